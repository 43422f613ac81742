section
theorem pk_us {f : Nat → Int32} {k : Nat} {x : Int32} : upd f k x k = x := if_pos rfl
theorem pk_un {f : Nat → Int32} {k j : Nat} {x : Int32} (h : j ≠ k) : upd f k x j = f j := if_neg h
theorem pk_uLs {f : Nat → Int64} {k : Nat} {x : Int64} : vp_updL f k x k = x := if_pos rfl
theorem pk_uLn {f : Nat → Int64} {k j : Nat} {x : Int64} (h : j ≠ k) : vp_updL f k x j = f j := if_neg h
theorem pk_sub {a b : Nat} (h : b ≤ a) : nI a - nI b = nI (a - b) := by
  obtain ⟨c, rfl⟩ : ∃ c, a = c + b := ⟨a - b, by omega⟩
  rw [← nI_add, Int32.add_sub_cancel, Nat.add_sub_cancel]
theorem pk_m1 (n : Nat) : nI (n + 1) + (-1) = nI n := by
  rw [← nI_1, Int32.add_assoc, show (1 : Int32) + (-1) = 0 from rfl, Int32.add_zero]
theorem pk_mul (a b : Nat) : nI a * nI b = nI (a * b) := (Int32.ofNat_mul a b).symm
theorem pk_div {a d : Nat} (ha : a < 2 ^ 31) (h0 : 0 < d) (hd : d < 2 ^ 31) : nI a / nI d = nI (a / d) := by
  apply Int32.toInt_inj.mp
  rw [lg_idiv_nonneg (by rw [nI_toInt ha]; omega) (by rw [nI_toInt hd]; omega), nI_toInt ha, nI_toInt hd, nI_toInt (Nat.lt_of_le_of_lt (Nat.div_le_self a d) ha)]
  first | rfl | exact (Int.natCast_ediv _ _).symm
theorem pk_rem {a d : Nat} (ha : a < 2 ^ 31) (h0 : 0 < d) (hd : d < 2 ^ 31) : nI a - nI a / nI d * nI d = nI (a % d) := by
  rw [pk_div ha h0 hd, pk_mul, pk_sub (Nat.div_mul_le_self a d)]
  exact congrArg nI (by have := Nat.div_add_mod' a d; omega)
theorem pk_ix (x : Int32) {n : Nat} (hn : n < 2 ^ 31) : x < 0 ∨ nI n ≤ x ∨ ∃ j : Nat, j < n ∧ x = nI j := by
  by_cases h : x < 0
  · exact Or.inl h
  · obtain ⟨j, hj, rfl⟩ := nI_of h
    by_cases h2 : j < n
    · exact Or.inr (Or.inr ⟨j, h2, rfl⟩)
    · exact Or.inr (Or.inl (nI_le (by omega) hj))
theorem pk_le {x y : Int32} {A B : Prop} (a b : Nat) (f : a ≤ b → A) (g : b < a → B) (hx : x = nI a := by rfl) (hy : y = nI b := by rfl) (ha : a < 2 ^ 31 := by omega) (hb : b < 2 ^ 31 := by omega) : (x ≤ y → A) ∧ (¬ x ≤ y → B) := by
  subst hx hy
  rw [nI_leI ha hb]
  exact ⟨f, fun z => g (by omega)⟩
theorem pk_lt {x y : Int32} {A B : Prop} (a b : Nat) (f : a < b → A) (g : b ≤ a → B) (hx : x = nI a := by rfl) (hy : y = nI b := by rfl) (ha : a < 2 ^ 31 := by omega) (hb : b < 2 ^ 31 := by omega) : (x < y → A) ∧ (¬ x < y → B) := by
  subst hx hy
  rw [nI_ltI ha hb]
  exact ⟨f, fun z => g (by omega)⟩
theorem pk_eq {x y : Int32} {A B : Prop} (a b : Nat) (f : a = b → A) (g : a ≠ b → B) (hx : x = nI a := by rfl) (hy : y = nI b := by rfl) (ha : a < 2 ^ 31 := by omega) (hb : b < 2 ^ 31 := by omega) : (x = y → A) ∧ (¬ x = y → B) := by
  subst hx hy
  rw [nI_eq ha hb]
  exact ⟨f, g⟩
theorem pk_in {x : Int32} (n N : Nat) (h : n < N) (hx : x = nI n := by rfl) (hN : N < 2 ^ 31 := by omega) : vp_in x N := by
  subst hx
  exact vp_in_nI h hN
theorem pk_cl {x : Int32} (n : Nat) (hx : x = nI n := by rfl) (h : n < 2 ^ 31 := by omega) : x.toNatClampNeg = n := by
  subst hx
  exact nI_clamp h
theorem pk_tn {n : Nat} (h : n < 2 ^ 32) : (nI n).toBitVec.toNat = n := Nat.mod_eq_of_lt h
end
section
/-! values as longs -/
def vb_pk (s i : Int32) : Int64 := (s.toInt64 <<< ((32 : Int32).toInt64 &&& 63)) ||| (i.toInt64 &&& 4294967295)
theorem vb_c : ((32 : Int32).toInt64 &&& 63) = 32 := by decide
theorem vb_n (s i : Int32) : (vb_pk s i).toInt32 = i := by
  unfold vb_pk
  rw [vb_c]
  apply Int32.toBitVec_inj.mp
  apply BitVec.eq_of_getLsbD_eq
  intro j hj
  have e : ((s.toInt64 <<< 32) ||| (i.toInt64 &&& 4294967295)).toInt32.toBitVec = (((s.toBitVec.signExtend 64) <<< 32) ||| ((i.toBitVec.signExtend 64) &&& 4294967295#64)).signExtend 32 := by
    rfl
  rw [e]
  have h5 : (4294967295#64).getLsbD j = true := by
    have : ∀ j, j < 32 → (4294967295#64).getLsbD j = true := by decide +kernel
    exact this j hj
  have h9 : (BitVec.signExtend 64 i.toBitVec).getLsbD j = i.toBitVec.getLsbD j := by
    have h64 : j < 64 := by omega
    rw [BitVec.getLsbD_signExtend, if_pos hj]
    simp only [h64, decide_true, Bool.true_and]
  have h10 : j < 64 := by omega
  rw [BitVec.getLsbD_signExtend, if_pos (by omega), BitVec.getLsbD_or, BitVec.getLsbD_shiftLeft, BitVec.getLsbD_and, h9, h5]
  simp only [hj, h10, decide_true, Bool.not_true, Bool.true_and, Bool.false_and, Bool.and_false, Bool.false_or, Bool.and_true]
theorem vb_s {s i : Int32} (hs : s = 1 ∨ s = 2 ∨ s = 3 ∨ s = 4) : (vb_pk s i >>> ((32 : Int32).toInt64 &&& 63)).toInt32 = s := by
  unfold vb_pk
  rw [vb_c]
  apply Int32.toBitVec_inj.mp
  apply BitVec.eq_of_getLsbD_eq
  intro j hj
  have e : (((s.toInt64 <<< 32) ||| (i.toInt64 &&& 4294967295)) >>> 32).toInt32.toBitVec = ((((s.toBitVec.signExtend 64) <<< 32) ||| ((i.toBitVec.signExtend 64) &&& 4294967295#64)).sshiftRight 32).signExtend 32 := by
    rfl
  rw [e]
  have h5 : (4294967295#64).getLsbD (32 + j) = false := by
    have : ∀ j, j < 32 → (4294967295#64).getLsbD (32 + j) = false := by decide +kernel
    exact this j hj
  rw [BitVec.getLsbD_signExtend, if_pos (by omega), BitVec.getLsbD_sshiftRight]
  have h6 : ¬ 64 ≤ j := by omega
  have h7 : 32 + j < 64 := by omega
  simp only [h6, h7, decide_false, decide_true, Bool.not_false, Bool.true_and, if_true]
  rw [BitVec.getLsbD_or, BitVec.getLsbD_shiftLeft, BitVec.getLsbD_and, h5]
  have h8 : 32 + j - 32 = j := by omega
  have h10 : j < 64 := by omega
  have h11 : ¬ 32 + j < 32 := by omega
  rw [h8, BitVec.getLsbD_signExtend, if_pos hj]
  simp only [hj, h7, h10, h11, decide_true, decide_false, Bool.not_false, Bool.true_and, Bool.and_false, Bool.or_false]
theorem vb_nil : (4294967296 : Int64) = vb_pk 1 0 := by decide +kernel
theorem vb_s1 (i : Int32) : (vb_pk 1 i >>> ((32 : Int32).toInt64 &&& 63)).toInt32 = 1 := vb_s (Or.inl rfl)
theorem vb_s2 (i : Int32) : (vb_pk 2 i >>> ((32 : Int32).toInt64 &&& 63)).toInt32 = 2 := vb_s (Or.inr (Or.inl rfl))
theorem vb_s3 (i : Int32) : (vb_pk 3 i >>> ((32 : Int32).toInt64 &&& 63)).toInt32 = 3 := vb_s (Or.inr (Or.inr (Or.inl rfl)))
theorem vb_s4 (i : Int32) : (vb_pk 4 i >>> ((32 : Int32).toInt64 &&& 63)).toInt32 = 4 := vb_s (Or.inr (Or.inr (Or.inr rfl)))
theorem vb_inj {s i s' i' : Int32} (hs : s = 1 ∨ s = 2 ∨ s = 3 ∨ s = 4) (hs' : s' = 1 ∨ s' = 2 ∨ s' = 3 ∨ s' = 4) (h : vb_pk s i = vb_pk s' i') : s = s' ∧ i = i' := by
  have a := vb_n s i
  have b := vb_s (i := i) hs
  rw [h, vb_n] at a
  rw [h, vb_s hs'] at b
  exact ⟨b.symm, a.symm⟩
/-! the numbers of things -/
def cu_O (ob : Nat → Bool) : Nat → Nat
  | 0 => 0
  | t + 1 => cu_O ob t + (if ob t = true then 1 else 0)
def cu_g (ob : Nat → Bool) (t : Nat) : Nat := if ob t = true then cu_O ob t else t - cu_O ob t
theorem cu_le (ob : Nat → Bool) : ∀ t, cu_O ob t ≤ t
  | 0 => Nat.le_refl _
  | t + 1 => by
    have := cu_le ob t
    unfold cu_O
    split <;> omega
theorem cu_mono (ob : Nat → Bool) (s : Nat) : ∀ t, s ≤ t → cu_O ob s ≤ cu_O ob t ∧ s - cu_O ob s ≤ t - cu_O ob t
  | 0, h => by
    have : s = 0 := by omega
    subst this
    exact ⟨Nat.le_refl _, Nat.le_refl _⟩
  | t + 1, h => by
    by_cases e : s = t + 1
    · subst e
      exact ⟨Nat.le_refl _, Nat.le_refl _⟩
    · have i := cu_mono ob s t (by omega)
      have l := cu_le ob t
      rw [show cu_O ob (t + 1) = cu_O ob t + (if ob t = true then 1 else 0) from rfl]
      split <;> omega
theorem cu_st {ob : Nat → Bool} {t : Nat} (h : ob t = true) : cu_O ob (t + 1) = cu_O ob t + 1 := by
  rw [show cu_O ob (t + 1) = cu_O ob t + (if ob t = true then 1 else 0) from rfl, if_pos h]
theorem cu_sf {ob : Nat → Bool} {t : Nat} (h : ob t = false) : cu_O ob (t + 1) = cu_O ob t := by
  rw [show cu_O ob (t + 1) = cu_O ob t + (if ob t = true then 1 else 0) from rfl, if_neg (by rw [h]; exact Bool.noConfusion), Nat.add_zero]
theorem cu_gt {ob : Nat → Bool} {t n : Nat} (h : ob t = true) (hn : t < n) : cu_g ob t < cu_O ob n := by
  have a := (cu_mono ob (t + 1) n hn).1
  rw [cu_st h] at a
  unfold cu_g
  rw [if_pos h]
  omega
theorem cu_gf {ob : Nat → Bool} {t n : Nat} (h : ob t = false) (hn : t < n) : cu_g ob t < n - cu_O ob n := by
  have a := (cu_mono ob (t + 1) n hn).2
  have l := cu_le ob t
  rw [cu_sf h] at a
  unfold cu_g
  rw [if_neg (by rw [h]; exact Bool.noConfusion)]
  omega
theorem cu_inj1 {ob : Nat → Bool} {s t : Nat} (e : ob s = ob t) (h : s < t) : cu_g ob s < cu_g ob t := by
  cases k : ob s with
  | true =>
    have a := cu_gt k h
    have k' : ob t = true := e ▸ k
    have : cu_g ob t = cu_O ob t := if_pos k'
    omega
  | false =>
    have a := cu_gf k h
    have k' : ob t = false := e ▸ k
    have : cu_g ob t = t - cu_O ob t := if_neg (by rw [k']; exact Bool.noConfusion)
    omega
theorem cu_inj {ob : Nat → Bool} {s t : Nat} (e : ob s = ob t) (h : cu_g ob s = cu_g ob t) : s = t := by
  rcases Nat.lt_trichotomy s t with a | a | a
  · have := cu_inj1 e a; omega
  · exact a
  · have := cu_inj1 e.symm a; omega
theorem cu_cg {ob ob' : Nat → Bool} : ∀ {n : Nat}, (∀ t, t < n → ob' t = ob t) → cu_O ob' n = cu_O ob n
  | 0, _ => rfl
  | n + 1, h => by
    rw [show cu_O ob' (n + 1) = cu_O ob' n + (if ob' n = true then 1 else 0) from rfl, show cu_O ob (n + 1) = cu_O ob n + (if ob n = true then 1 else 0) from rfl, h n (by omega), cu_cg (fun t ht => h t (by omega))]
theorem cu_gcg {ob ob' : Nat → Bool} {n t : Nat} (h : ∀ t, t < n → ob' t = ob t) (ht : t < n) : cu_g ob' t = cu_g ob t := by
  unfold cu_g
  rw [h t ht, cu_cg (fun s hs => h s (by omega))]
/-! related values -/
def vb_R (ob : Nat → Bool) (n : Nat) (x y : Int64) : Prop :=
  (x = vb_pk 1 0 ∧ y = vb_pk 1 0) ∨ (∃ i, x = vb_pk 2 i ∧ y = vb_pk 2 i) ∨ (∃ t, t < n ∧ ob t = false ∧ x = vb_pk 3 (nI t) ∧ y = vb_pk 3 (nI (cu_g ob t))) ∨ (∃ t, t < n ∧ ob t = true ∧ x = vb_pk 4 (nI t) ∧ y = vb_pk 4 (nI (cu_g ob t)))
def vb_T (x : Int64) : Int32 := (x >>> ((32 : Int32).toInt64 &&& 63)).toInt32
theorem vC_1 (i : Int32) : vb_T (vb_pk 1 i) = 1 := vb_s1 i
theorem vC_2 (i : Int32) : vb_T (vb_pk 2 i) = 2 := vb_s2 i
theorem vC_3 (i : Int32) : vb_T (vb_pk 3 i) = 3 := vb_s3 i
theorem vC_4 (i : Int32) : vb_T (vb_pk 4 i) = 4 := vb_s4 i
theorem vB_mono {ob ob' : Nat → Bool} {n n' : Nat} (h : ∀ t, t < n → ob' t = ob t) (hn : n ≤ n') {x y : Int64} (r : vb_R ob n x y) : vb_R ob' n' x y := by
  rcases r with r | r | ⟨t, a, b, c, d⟩ | ⟨t, a, b, c, d⟩
  · exact Or.inl r
  · exact Or.inr (Or.inl r)
  · exact Or.inr (Or.inr (Or.inl ⟨t, by omega, (h t a).trans b, c, by rw [cu_gcg h a]; exact d⟩))
  · exact Or.inr (Or.inr (Or.inr ⟨t, by omega, (h t a).trans b, c, by rw [cu_gcg h a]; exact d⟩))
theorem vB_T {ob : Nat → Bool} {n : Nat} {x y : Int64} (r : vb_R ob n x y) : vb_T x = vb_T y := by
  rcases r with ⟨rfl, rfl⟩ | ⟨i, rfl, rfl⟩ | ⟨t, a, b, rfl, rfl⟩ | ⟨t, a, b, rfl, rfl⟩
  · rfl
  · rfl
  · rw [vC_3, vC_3]
  · rw [vC_4, vC_4]
theorem vB_2 {ob : Nat → Bool} {n : Nat} {x y : Int64} (r : vb_R ob n x y) (h : vb_T x = 2) : y = x ∧ x = vb_pk 2 x.toInt32 := by
  rcases r with ⟨rfl, rfl⟩ | ⟨i, rfl, rfl⟩ | ⟨t, a, b, rfl, rfl⟩ | ⟨t, a, b, rfl, rfl⟩
  · rw [vC_1] at h; exact absurd h (by decide)
  · exact ⟨rfl, by rw [vb_n]⟩
  · rw [vC_3] at h; exact absurd h (by decide)
  · rw [vC_4] at h; exact absurd h (by decide)
theorem vB_3 {ob : Nat → Bool} {n : Nat} {x y : Int64} (r : vb_R ob n x y) (h : vb_T x = 3) : ∃ t, t < n ∧ ob t = false ∧ x = vb_pk 3 (nI t) ∧ y = vb_pk 3 (nI (cu_g ob t)) := by
  rcases r with ⟨rfl, rfl⟩ | ⟨i, rfl, rfl⟩ | r | ⟨t, a, b, rfl, rfl⟩
  · rw [vC_1] at h; exact absurd h (by decide)
  · rw [vC_2] at h; exact absurd h (by decide)
  · exact r
  · rw [vC_4] at h; exact absurd h (by decide)
theorem vB_4 {ob : Nat → Bool} {n : Nat} {x y : Int64} (r : vb_R ob n x y) (h : vb_T x = 4) : ∃ t, t < n ∧ ob t = true ∧ x = vb_pk 4 (nI t) ∧ y = vb_pk 4 (nI (cu_g ob t)) := by
  rcases r with ⟨rfl, rfl⟩ | ⟨i, rfl, rfl⟩ | ⟨t, a, b, rfl, rfl⟩ | r
  · rw [vC_1] at h; exact absurd h (by decide)
  · rw [vC_2] at h; exact absurd h (by decide)
  · rw [vC_3] at h; exact absurd h (by decide)
  · exact r
theorem vB_eq {ob : Nat → Bool} {n : Nat} (hn : n ≤ 1000) {x y x' y' : Int64} (r : vb_R ob n x y) (r' : vb_R ob n x' y') : x = x' ↔ y = y' := by
  have one : vb_T x = vb_T x' → vb_T y = vb_T y' := fun h => by rw [← vB_T r, ← vB_T r']; exact h
  have L : ∀ s, cu_O ob s ≤ s := cu_le ob
  have G : ∀ t, t < n → cu_g ob t < 1001 := fun t ht => by
    have := L t
    unfold cu_g
    split <;> omega
  constructor
  · rintro rfl
    rcases r with ⟨rfl, rfl⟩ | ⟨i, rfl, rfl⟩ | ⟨t, a, b, rfl, rfl⟩ | ⟨t, a, b, rfl, rfl⟩
    · rcases r' with ⟨e, rfl⟩ | ⟨i', e, rfl⟩ | ⟨t', a', b', e, rfl⟩ | ⟨t', a', b', e, rfl⟩
      · rfl
      · exact e
      · exact absurd (vb_inj (by decide) (by decide) e).1 (by decide)
      · exact absurd (vb_inj (by decide) (by decide) e).1 (by decide)
    · rcases r' with ⟨e, rfl⟩ | ⟨i', e, rfl⟩ | ⟨t', a', b', e, rfl⟩ | ⟨t', a', b', e, rfl⟩
      · exact e
      · exact e
      · exact absurd (vb_inj (by decide) (by decide) e).1 (by decide)
      · exact absurd (vb_inj (by decide) (by decide) e).1 (by decide)
    · rcases r' with ⟨e, rfl⟩ | ⟨i', e, rfl⟩ | ⟨t', a', b', e, rfl⟩ | ⟨t', a', b', e, rfl⟩
      · exact absurd (vb_inj (by decide) (by decide) e).1 (by decide)
      · exact absurd (vb_inj (by decide) (by decide) e).1 (by decide)
      · have q := (vb_inj (by decide) (by decide) e).2
        rw [nI_eq (by omega) (by omega)] at q
        rw [q]
      · exact absurd (vb_inj (by decide) (by decide) e).1 (by decide)
    · rcases r' with ⟨e, rfl⟩ | ⟨i', e, rfl⟩ | ⟨t', a', b', e, rfl⟩ | ⟨t', a', b', e, rfl⟩
      · exact absurd (vb_inj (by decide) (by decide) e).1 (by decide)
      · exact absurd (vb_inj (by decide) (by decide) e).1 (by decide)
      · exact absurd (vb_inj (by decide) (by decide) e).1 (by decide)
      · have q := (vb_inj (by decide) (by decide) e).2
        rw [nI_eq (by omega) (by omega)] at q
        rw [q]
  · rintro rfl
    rcases r with ⟨rfl, rfl⟩ | ⟨i, rfl, rfl⟩ | ⟨t, a, b, rfl, rfl⟩ | ⟨t, a, b, rfl, rfl⟩
    · rcases r' with ⟨rfl, e⟩ | ⟨i', rfl, e⟩ | ⟨t', a', b', rfl, e⟩ | ⟨t', a', b', rfl, e⟩
      · rfl
      · exact e
      · exact absurd (vb_inj (by decide) (by decide) e).1 (by decide)
      · exact absurd (vb_inj (by decide) (by decide) e).1 (by decide)
    · rcases r' with ⟨rfl, e⟩ | ⟨i', rfl, e⟩ | ⟨t', a', b', rfl, e⟩ | ⟨t', a', b', rfl, e⟩
      · exact e
      · exact e
      · exact absurd (vb_inj (by decide) (by decide) e).1 (by decide)
      · exact absurd (vb_inj (by decide) (by decide) e).1 (by decide)
    · rcases r' with ⟨rfl, e⟩ | ⟨i', rfl, e⟩ | ⟨t', a', b', rfl, e⟩ | ⟨t', a', b', rfl, e⟩
      · exact absurd (vb_inj (by decide) (by decide) e).1 (by decide)
      · exact absurd (vb_inj (by decide) (by decide) e).1 (by decide)
      · have q := (vb_inj (by decide) (by decide) e).2
        rw [nI_eq (by have := G t a; omega) (by have := G t' a'; omega)] at q
        rw [cu_inj (b.trans b'.symm) q]
      · exact absurd (vb_inj (by decide) (by decide) e).1 (by decide)
    · rcases r' with ⟨rfl, e⟩ | ⟨i', rfl, e⟩ | ⟨t', a', b', rfl, e⟩ | ⟨t', a', b', rfl, e⟩
      · exact absurd (vb_inj (by decide) (by decide) e).1 (by decide)
      · exact absurd (vb_inj (by decide) (by decide) e).1 (by decide)
      · exact absurd (vb_inj (by decide) (by decide) e).1 (by decide)
      · have q := (vb_inj (by decide) (by decide) e).2
        rw [nI_eq (by have := G t a; omega) (by have := G t' a'; omega)] at q
        rw [cu_inj (b.trans b'.symm) q]
/-! a row of writes -/
def up_n (f : Nat → Int64) (b : Nat) (g : Nat → Int64) : Nat → Nat → Int64
  | 0 => f
  | k + 1 => vp_updL (up_n f b g k) (b + k) (g k)
theorem up_in {f g : Nat → Int64} {b : Nat} : ∀ {k j : Nat}, j < k → up_n f b g k (b + j) = g j
  | 0, _, h => absurd h (Nat.not_lt_zero _)
  | k + 1, j, h => by
    show vp_updL (up_n f b g k) (b + k) (g k) (b + j) = g j
    by_cases e : j = k
    · subst e; exact pk_uLs
    · rw [pk_uLn (by omega)]; exact up_in (by omega)
theorem up_out {f g : Nat → Int64} {b i : Nat} : ∀ {k : Nat}, (i < b ∨ b + k ≤ i) → up_n f b g k i = f i
  | 0, _ => rfl
  | k + 1, h => by
    show vp_updL (up_n f b g k) (b + k) (g k) i = f i
    rw [pk_uLn (by omega)]; exact up_out (by omega)
end
section
/-! the program's terms -/
def pg_op (k : Nat) : Nat := if k ≤ 6 then k else if k = 18 ∨ k = 29 then 6 else if k = 28 ∨ k = 31 then 14 else if k = 30 then 23 else if k < 20 then k - 3 else k - 5
def pg_fp (k : Nat) : Nat := if k = 13 then 0 else if k = 26 ∨ k = 30 then 1 else k / 10
def pg_v (k : Nat) : Prop := k ≤ 6 ∨ (10 ≤ k ∧ k ≤ 18) ∨ (20 ≤ k ∧ k ≤ 31)
def pg_k (nc k : Nat) (x : Int32) : Prop :=
  ((k = 3 ∨ k = 10) → ∃ j, j < 6 ∧ x = nI j) ∧ ((k = 4 ∨ k = 11) → ∃ j, j < 4 ∧ x = nI j) ∧ (k = 5 → ∃ j, j < nc ∧ x = nI j) ∧ (k = 13 → x = -1 ∨ ∃ j, j < 6 ∧ x = nI j) ∧ ((k = 6 ∨ k = 17) → ∃ j, j < 6 ∧ j % 3 = 0 ∧ x = nI j) ∧ ((k = 18 ∨ k = 28) → ∃ j, j < 6 ∧ j % 3 = 1 ∧ x = nI j) ∧ ((k = 29 ∨ k = 31) → ∃ j, j < 6 ∧ j % 3 = 2 ∧ x = nI j)
def pg_sm (SZ PN : Nat → Nat) (t : Nat) : Nat → Nat
  | 0 => 0
  | d + 1 => pg_sm SZ PN t d + SZ (PN (3 * t + d))
def pg_T (nc t : Nat) (op tk tp fp kd : Nat → Int32) (KN PN SZ : Nat → Nat) : Prop :=
  pg_v (KN t) ∧ kd t = nI (KN t) ∧ op t = nI (pg_op (KN t)) ∧ fp t = nI (pg_fp (KN t)) ∧ pg_k nc (KN t) (tk t) ∧ (∀ i, i < KN t / 10 → tp (3 * t + i) = nI (PN (3 * t + i)) ∧ PN (3 * t + i) < t) ∧ pg_sm SZ PN t (KN t / 10) + 1 ≤ SZ t ∧ SZ t ≤ 100
def pg_C (nt c : Nat) (cp cf mt : Nat → Int32) : Prop :=
  (cp c = -1 ∨ ∃ p, p < c ∧ cp c = nI p) ∧ (∃ j, j ≤ 4 ∧ cf c = nI j) ∧ ∀ s, s < 6 → (mt (6 * c + s) = -1 ∨ ∃ t, t < nt ∧ mt (6 * c + s) = nI t)
def pg_P (nc nt : Nat) (cp cf mt op tk tp fp kd : Nat → Int32) (KN PN SZ : Nat → Nat) : Prop :=
  nc ≤ 6 ∧ nt ≤ 100 ∧ (∀ c, c < nc → pg_C nt c cp cf mt) ∧ ∀ t, t < nt → pg_T nc t op tk tp fp kd KN PN SZ
def pg_co (KN PN SZ : Nat → Nat) (t d : Nat) : Nat := if KN t = 26 ∧ d = 2 then 4 * SZ t + 1 else 4 * SZ t - 4 * pg_sm SZ PN t d - d
theorem pg_fple {k : Nat} : pg_fp k ≤ k / 10 ∨ pg_fp k = 1 := by
  unfold pg_fp
  split
  · left; omega
  · split
    · right; rfl
    · left; omega
theorem pg_fpl {k : Nat} (h : pg_v k) : pg_fp k ≤ k / 10 ∧ k / 10 ≤ 3 := by
  unfold pg_v at h
  unfold pg_fp
  split
  · omega
  · split <;> omega
theorem pg_sz {nc nt : Nat} {cp cf mt op tk tp fp kd : Nat → Int32} {KN PN SZ : Nat → Nat} (P : pg_P nc nt cp cf mt op tk tp fp kd KN PN SZ) {t : Nat} (ht : t < nt) : 1 ≤ SZ t ∧ SZ t ≤ 100 := by
  have h := (P.2.2.2 t ht).2.2.2.2.2.2
  omega
theorem pg_sd {nc nt : Nat} {cp cf mt op tk tp fp kd : Nat → Int32} {KN PN SZ : Nat → Nat} (P : pg_P nc nt cp cf mt op tk tp fp kd KN PN SZ) {t : Nat} (ht : t < nt) : ∀ d, d ≤ KN t / 10 → d ≤ pg_sm SZ PN t d ∧ pg_sm SZ PN t d ≤ pg_sm SZ PN t (KN t / 10) := by
  have Q := (P.2.2.2 t ht).2.2.2.2.2.1
  have up : ∀ e d, d + e = KN t / 10 → pg_sm SZ PN t d ≤ pg_sm SZ PN t (KN t / 10) := by
    intro e
    induction e with
    | zero => intro d h; rw [← h]; exact Nat.le_refl _
    | succ e ih =>
      intro d h
      have := ih (d + 1) (by omega)
      have q : pg_sm SZ PN t (d + 1) = pg_sm SZ PN t d + SZ (PN (3 * t + d)) := rfl
      omega
  intro d
  induction d with
  | zero => intro h; exact ⟨Nat.zero_le _, Nat.zero_le _⟩
  | succ d ih =>
    intro h
    have a := ih (by omega)
    have q : pg_sm SZ PN t (d + 1) = pg_sm SZ PN t d + SZ (PN (3 * t + d)) := rfl
    have b := pg_sz P (t := PN (3 * t + d)) (by have := (Q d (by omega)).2; omega)
    exact ⟨by omega, up (KN t / 10 - (d + 1)) (d + 1) (by omega)⟩
/-! the ghost stack: (true, t, d) a term whose part d - 1 is under way; (false, a, m) a frame -/
def kl_nx (k d : Nat) : Nat := if k = 26 then 0 else d - 1
def kl_ny (k d : Nat) : Nat := if k = 26 ∨ k = 25 then 0 else d - 1
def kl_q (k d : Nat) : Nat := if k = 25 ∧ d = 2 then 0 else 1
def kl_d (k : Nat) : Nat := if k = 26 then 2 else pg_fp k
def kl_W : List (Bool × Nat × Nat) → Nat
  | [] => 0
  | (true, _, _) :: K => kl_W K + 1
  | (false, _, _) :: K => kl_W K
def kl_F : List (Bool × Nat × Nat) → Nat
  | [] => 0
  | (true, _, _) :: K => kl_F K
  | (false, _, _) :: K => kl_F K + 1
def kl_X (KN : Nat → Nat) : List (Bool × Nat × Nat) → Nat
  | [] => 0
  | (true, t, d) :: K => kl_X KN K + kl_nx (KN t) d
  | (false, _, _) :: K => kl_X KN K
def kl_Y (KN : Nat → Nat) : List (Bool × Nat × Nat) → Nat
  | [] => 0
  | (true, t, d) :: K => kl_Y KN K + kl_ny (KN t) d
  | (false, _, _) :: K => kl_Y KN K
def kl_Q (KN : Nat → Nat) : List (Bool × Nat × Nat) → Nat
  | [] => 0
  | (true, t, d) :: K => kl_Q KN K + kl_q (KN t) d
  | (false, _, _) :: K => kl_Q KN K + 1
def kl_A : List (Bool × Nat × Nat) → Nat
  | [] => 0
  | (true, _, _) :: K => kl_A K
  | (false, a, _) :: _ => a
def kl_L (b : Nat) : List (Bool × Nat × Nat) → Nat
  | [] => 0
  | (true, _, _) :: K => kl_L b K
  | (false, a, m) :: K => if a = b ∧ m = 1 then kl_F K + 1 else kl_L b K
def kl_C (KN PN SZ : Nat → Nat) : List (Bool × Nat × Nat) → Nat
  | [] => 0
  | (true, t, d) :: K => kl_C KN PN SZ K + pg_co KN PN SZ t d
  | (false, _, _) :: K => kl_C KN PN SZ K + 1
def kl_ax (K : List (Bool × Nat × Nat)) (a : Nat) : Int32 := if a = 0 then 0 else if kl_L a K = 0 then -1 else nI (kl_L a K)
def kl_ay (K : List (Bool × Nat × Nat)) (a : Nat) : Int32 := if a = 0 then 0 else if kl_L a K = 0 then 1 else 0
def kl_S (nt na : Nat) (R : Int64 → Int64 → Prop) (KN SZ : Nat → Nat) (fa fw fv wt wd : Nat → Int32) (wv : Nat → Int64) (wa hs : Nat → Int32) (vl : Nat → Int64) : List (Bool × Nat × Nat) → Prop
  | [] => True
  | (true, t, d) :: K => (t < nt ∧ 1 ≤ d ∧ d ≤ kl_d (KN t) ∧ kl_W K + kl_X KN K + SZ t ≤ 100 * (kl_F K + 1)) ∧ wt (kl_W K) = nI t ∧ wd (kl_W K) = nI d ∧ (¬ (KN t = 25 ∧ d = 2) → wa (kl_Q KN K) = nI (1024 * kl_A K + 8 * t + d)) ∧ (∀ j, j < kl_ny (KN t) d → R (wv (kl_X KN K + j)) (vl (kl_Y KN K + j))) ∧ kl_S nt na R KN SZ fa fw fv wt wd wv wa hs vl K
  | (false, a, m) :: K => (a < na ∧ m ≤ 1 ∧ (m = 1 → 1 ≤ a ∧ kl_L a K = 0) ∧ kl_W K + kl_X KN K ≤ 100 * (kl_F K + 1) ∧ kl_F K < 20) ∧ fa (kl_F K + 1) = nI a ∧ fw (kl_F K + 1) = nI (kl_W K) ∧ fv (kl_F K + 1) = nI (kl_X KN K) ∧ wa (kl_Q KN K) = nI (1024 * a + 8 * (126 + m)) ∧ hs (kl_Q KN K) = nI (kl_Y KN K) ∧ kl_S nt na R KN SZ fa fw fv wt wd wv wa hs vl K
section
variable {nt na na' : Nat} {R R' : Int64 → Int64 → Prop} {KN SZ : Nat → Nat} {fa fw fv wt wd fa' fw' fv' wt' wd' : Nat → Int32} {wv wv' : Nat → Int64} {wa hs wa' hs' : Nat → Int32} {vl vl' : Nat → Int64}
theorem kl_cg (hR : ∀ x y, R x y → R' x y) (hn : na ≤ na') : ∀ {K : List (Bool × Nat × Nat)}, (∀ i, i < kl_W K → wt' i = wt i ∧ wd' i = wd i) → (∀ i, 1 ≤ i → i ≤ kl_F K → fa' i = fa i ∧ fw' i = fw i ∧ fv' i = fv i) → (∀ i, i < kl_X KN K → wv' i = wv i) → (∀ i, i < kl_Q KN K → wa' i = wa i ∧ hs' i = hs i) → (∀ i, i < kl_Y KN K → vl' i = vl i) → kl_S nt na R KN SZ fa fw fv wt wd wv wa hs vl K → kl_S nt na' R' KN SZ fa' fw' fv' wt' wd' wv' wa' hs' vl' K
  | [], _, _, _, _, _, _ => True.intro
  | (true, t, d) :: K, h1, h2, h3, h4, h5, S => by
    have e1 : kl_W ((true, t, d) :: K) = kl_W K + 1 := rfl
    have e2 : kl_F ((true, t, d) :: K) = kl_F K := rfl
    have e3 : kl_X KN ((true, t, d) :: K) = kl_X KN K + kl_nx (KN t) d := rfl
    have e4 : kl_Q KN ((true, t, d) :: K) = kl_Q KN K + kl_q (KN t) d := rfl
    have e5 : kl_Y KN ((true, t, d) :: K) = kl_Y KN K + kl_ny (KN t) d := rfl
    rw [e1] at h1
    rw [e2] at h2
    rw [e3] at h3
    rw [e4] at h4
    rw [e5] at h5
    obtain ⟨a, b, c, e, g, S⟩ := S
    refine ⟨a, ?_, ?_, ?_, ?_, kl_cg hR hn (fun i hi => h1 i (by omega)) h2 (fun i hi => h3 i (by omega)) (fun i hi => h4 i (by omega)) (fun i hi => h5 i (by omega)) S⟩
    · rw [(h1 _ (by omega)).1]; exact b
    · rw [(h1 _ (by omega)).2]; exact c
    · intro z
      have : kl_q (KN t) d = 1 := if_neg z
      rw [(h4 _ (by omega)).1]; exact e z
    · intro j hj
      have : kl_ny (KN t) d ≤ kl_nx (KN t) d := by
        unfold kl_ny kl_nx
        split <;> split <;> omega
      rw [h3 _ (by omega), h5 _ (by omega)]; exact hR _ _ (g j hj)
  | (false, a, m) :: K, h1, h2, h3, h4, h5, S => by
    have e1 : kl_W ((false, a, m) :: K) = kl_W K := rfl
    have e2 : kl_F ((false, a, m) :: K) = kl_F K + 1 := rfl
    have e3 : kl_X KN ((false, a, m) :: K) = kl_X KN K := rfl
    have e4 : kl_Q KN ((false, a, m) :: K) = kl_Q KN K + 1 := rfl
    have e5 : kl_Y KN ((false, a, m) :: K) = kl_Y KN K := rfl
    rw [e1] at h1
    rw [e2] at h2
    rw [e3] at h3
    rw [e4] at h4
    rw [e5] at h5
    obtain ⟨⟨a1, a2⟩, b, c, e, g, o, S⟩ := S
    have q := h2 (kl_F K + 1) (by omega) (by omega)
    have q4 := h4 (kl_Q KN K) (by omega)
    refine ⟨⟨by omega, a2⟩, q.1.trans b, q.2.1.trans c, q.2.2.trans e, q4.1.trans g, q4.2.trans o, kl_cg hR hn h1 (fun i hi hj => h2 i hi (by omega)) h3 (fun i hi => h4 i (by omega)) h5 S⟩
theorem kl_fa : ∀ {K : List (Bool × Nat × Nat)}, kl_S nt na R KN SZ fa fw fv wt wd wv wa hs vl K → fa 0 = 0 → fa (kl_F K) = nI (kl_A K)
  | [], _, h => h
  | (true, _, _) :: K, S, h => kl_fa (K := K) S.2.2.2.2.2 h
  | (false, _, _) :: _, S, _ => S.2.1
theorem kl_Ab (h0 : 1 ≤ na) : ∀ {K : List (Bool × Nat × Nat)}, kl_S nt na R KN SZ fa fw fv wt wd wv wa hs vl K → kl_A K < na
  | [], _ => h0
  | (true, _, _) :: K, S => kl_Ab h0 (K := K) S.2.2.2.2.2
  | (false, _, _) :: _, S => S.1.1
theorem kl_fw : ∀ {K : List (Bool × Nat × Nat)}, kl_S nt na R KN SZ fa fw fv wt wd wv wa hs vl K → fw 0 = 0 → ∃ b, b ≤ kl_W K ∧ fw (kl_F K) = nI b
  | [], _, h => ⟨0, Nat.le_refl _, h⟩
  | (true, _, _) :: K, S, h => by
    obtain ⟨b, h1, h2⟩ := kl_fw S.2.2.2.2.2 h
    exact ⟨b, Nat.le_trans h1 (Nat.le_succ _), h2⟩
  | (false, _, _) :: _, S, _ => ⟨_, Nat.le_refl _, S.2.2.1⟩
theorem kl_Fb : ∀ {K : List (Bool × Nat × Nat)}, kl_S nt na R KN SZ fa fw fv wt wd wv wa hs vl K → kl_F K ≤ 20
  | [], _ => Nat.zero_le _
  | (true, _, _) :: K, S => kl_Fb (K := K) S.2.2.2.2.2
  | (false, _, _) :: K, S => by
    have := S.1.2.2.2.2
    show kl_F K + 1 ≤ 20
    omega
theorem kl_b {nc : Nat} {cp cf mt op tk tp fp kd : Nat → Int32} {PN : Nat → Nat} (P : pg_P nc nt cp cf mt op tk tp fp kd KN PN SZ) : ∀ {K : List (Bool × Nat × Nat)}, kl_S nt na R KN SZ fa fw fv wt wd wv wa hs vl K → kl_W K + kl_X KN K + 1 ≤ 100 * (kl_F K + 1)
  | [], _ => by
    show 0 + 0 + 1 ≤ 100 * (0 + 1)
    omega
  | (true, t, d) :: K, S => by
    show kl_W K + 1 + (kl_X KN K + kl_nx (KN t) d) + 1 ≤ 100 * (kl_F K + 1)
    obtain ⟨⟨ht, h1, h2, h3⟩, _⟩ := S
    have T := P.2.2.2 t ht
    have l := pg_fpl T.1
    have hd : d ≤ KN t / 10 := by
      unfold kl_d at h2
      split at h2
      · omega
      · omega
    have s := pg_sd P ht d hd
    have z := T.2.2.2.2.2.2.1
    have : kl_nx (KN t) d ≤ d - 1 := by
      unfold kl_nx
      split <;> omega
    omega
  | (false, _, _) :: K, S => by
    have := S.1.2.2.2.1
    show kl_W K + kl_X KN K + 1 ≤ 100 * (kl_F K + 1 + 1)
    omega
end
theorem kl_Qb (KN : Nat → Nat) : ∀ K : List (Bool × Nat × Nat), kl_Q KN K ≤ kl_W K + kl_F K
  | [] => Nat.le_refl _
  | (true, t, d) :: K => by
    have := kl_Qb KN K
    show kl_Q KN K + kl_q (KN t) d ≤ kl_W K + 1 + kl_F K
    have : kl_q (KN t) d ≤ 1 := by
      unfold kl_q
      split <;> omega
    omega
  | (false, _, _) :: K => by
    have := kl_Qb KN K
    show kl_Q KN K + 1 ≤ kl_W K + (kl_F K + 1)
    omega
theorem kl_Yb (KN : Nat → Nat) : ∀ K : List (Bool × Nat × Nat), kl_Y KN K ≤ kl_X KN K
  | [] => Nat.le_refl _
  | (true, t, d) :: K => by
    have := kl_Yb KN K
    show kl_Y KN K + kl_ny (KN t) d ≤ kl_X KN K + kl_nx (KN t) d
    have : kl_ny (KN t) d ≤ kl_nx (KN t) d := by
      unfold kl_ny kl_nx
      split <;> split <;> omega
    omega
  | (false, _, _) :: K => kl_Yb KN K
theorem kl_Lb (b : Nat) : ∀ K : List (Bool × Nat × Nat), kl_L b K ≤ kl_F K
  | [] => Nat.le_refl _
  | (true, _, _) :: K => kl_Lb b K
  | (false, a, m) :: K => by
    have := kl_Lb b K
    show (if a = b ∧ m = 1 then kl_F K + 1 else kl_L b K) ≤ kl_F K + 1
    split <;> omega
end
section
section
variable {nc nt ns mn n na f ws vs en pc tc dc : Int32} {rs : Int64} {cp cf mt op tk tp fp sk oc bt ba rd ac af fa fw fv wt wd pr mc : Nat → Int32} {of sl wv : Nat → Int64}
theorem ax_push (post : SX → Prop) {q : Nat} {x : Int64} (h : q < 2100) (hp : post (nc, nt, ns, mn, n, na, f, ws, nI (q + 1), en, rs, pc, tc, dc, cp, cf, mt, op, tk, tp, fp, sk, oc, of, bt, ba, rd, sl, ac, af, fa, fw, fv, wt, wd, vp_updL wv q x, pr, mc)) : wpX_push post (nc, nt, ns, mn, n, na, f, ws, nI q, en, rs, pc, tc, dc, cp, cf, mt, op, tk, tp, fp, sk, oc, of, bt, ba, rd, sl, ac, af, fa, fw, fv, wt, wd, wv, pr, mc) x :=
  And.intro (vp_in_nI h (by decide)) (nm_r (by rw [nI_clamp (by omega)]) (nm_r (nI_1 q) hp))
theorem ax_pop (post : Int64 → SX → Prop) {q : Nat} (h : q < 2100) (hp : post (wv q) (nc, nt, ns, mn, n, na, f, ws, nI q, en, rs, pc, tc, dc, cp, cf, mt, op, tk, tp, fp, sk, oc, of, bt, ba, rd, sl, ac, af, fa, fw, fv, wt, wd, wv, pr, mc)) : wpX_pop post (nc, nt, ns, mn, n, na, f, ws, nI (q + 1), en, rs, pc, tc, dc, cp, cf, mt, op, tk, tp, fp, sk, oc, of, bt, ba, rd, sl, ac, af, fa, fw, fv, wt, wd, wv, pr, mc) :=
  nm_r (nI_pred q) (And.intro (vp_in_nI h (by decide)) (by rw [nI_clamp (by omega)]; exact hp))
theorem ax_begin (post : SX → Prop) {q : Nat} {x : Int32} (h : q < 2100) (hp : post (nc, nt, ns, mn, n, na, f, nI (q + 1), vs, en, rs, pc, tc, dc, cp, cf, mt, op, tk, tp, fp, sk, oc, of, bt, ba, rd, sl, ac, af, fa, fw, fv, upd wt q x, upd wd q 0, wv, pr, mc)) : wpX_begin post (nc, nt, ns, mn, n, na, f, nI q, vs, en, rs, pc, tc, dc, cp, cf, mt, op, tk, tp, fp, sk, oc, of, bt, ba, rd, sl, ac, af, fa, fw, fv, wt, wd, wv, pr, mc) x :=
  And.intro (vp_in_nI h (by decide)) (nm_r (by rw [nI_clamp (by omega)]) (And.intro (vp_in_nI h (by decide)) (nm_r (by rw [nI_clamp (by omega)]) (nm_r (nI_1 q) hp))))
theorem ax_pushInt (post : SX → Prop) {q : Nat} {i : Int32} (h : q < 2100) (hp : post (nc, nt, ns, mn, n, na, f, ws, nI (q + 1), en, rs, pc, tc, dc, cp, cf, mt, op, tk, tp, fp, sk, oc, of, bt, ba, rd, sl, ac, af, fa, fw, fv, wt, wd, vp_updL wv q (vb_pk 2 i), pr, mc)) : wpX_pushInt post (nc, nt, ns, mn, n, na, f, ws, nI q, en, rs, pc, tc, dc, cp, cf, mt, op, tk, tp, fp, sk, oc, of, bt, ba, rd, sl, ac, af, fa, fw, fv, wt, wd, wv, pr, mc) i :=
  ax_push _ h hp
theorem ax_turn_f (post : Int32 → SX → Prop) {q : Nat} (h : q < 200) (hp : post 1 (nc, nt, ns, mn, n, na, f, ws, vs, en, rs, pc, nI (q + 1), dc, cp, cf, mt, op, tk, tp, fp, sk, oc, of, bt, ba, rd, sl, ac, af, fa, fw, fv, wt, wd, wv, pr, mc)) : wpX_takeTurn post (nc, nt, ns, mn, n, na, f, ws, vs, en, rs, pc, nI q, dc, cp, cf, mt, op, tk, tp, fp, sk, oc, of, bt, ba, rd, sl, ac, af, fa, fw, fv, wt, wd, wv, pr, mc) :=
  br_t (nI_lt (b := 200) h (by decide)) (nm_r (nI_1 q) hp)
theorem ax_turn_n (post : Int32 → SX → Prop) (hp : post 0 (nc, nt, ns, mn, n, na, f, ws, vs, 2, rs, pc, nI 200, dc, cp, cf, mt, op, tk, tp, fp, sk, oc, of, bt, ba, rd, sl, ac, af, fa, fw, fv, wt, wd, wv, pr, mc)) : wpX_takeTurn post (nc, nt, ns, mn, n, na, f, ws, vs, en, rs, pc, nI 200, dc, cp, cf, mt, op, tk, tp, fp, sk, oc, of, bt, ba, rd, sl, ac, af, fa, fw, fv, wt, wd, wv, pr, mc) :=
  br_f (by decide) hp
theorem ax_leave_0 (post : SX → Prop) {q : Nat} (h : q < 2100) (hp : post (nc, nt, ns, mn, n, na, 0, ws, nI q, 0, wv q, pc, tc, dc, cp, cf, mt, op, tk, tp, fp, sk, oc, of, bt, ba, rd, sl, ac, af, fa, fw, fv, wt, wd, wv, pr, mc)) : wpX_leave post (nc, nt, ns, mn, n, na, 0, ws, nI (q + 1), en, rs, pc, tc, dc, cp, cf, mt, op, tk, tp, fp, sk, oc, of, bt, ba, rd, sl, ac, af, fa, fw, fv, wt, wd, wv, pr, mc) :=
  br_t rfl (ax_pop _ h hp)
theorem ax_leave_m (post : SX → Prop) {g a : Nat} (hg : g < 20) (ha : a < 201) (h1 : fa (g + 1) = nI a) (h2 : af a = nI (g + 1)) (hp : post (nc, nt, ns, mn, n, na, nI g, ws, vs, en, rs, pc, tc, dc, cp, cf, mt, op, tk, tp, fp, sk, oc, of, bt, ba, rd, sl, ac, upd af a (-1), fa, fw, fv, wt, wd, wv, pr, mc)) : wpX_leave post (nc, nt, ns, mn, n, na, nI (g + 1), ws, vs, en, rs, pc, tc, dc, cp, cf, mt, op, tk, tp, fp, sk, oc, of, bt, ba, rd, sl, ac, af, fa, fw, fv, wt, wd, wv, pr, mc) :=
  br_f (nI_ne0 (by omega) (by omega)) (And.intro (vp_in_nI (by omega) (by decide)) (nm_r (e' := nI a) (by rw [nI_clamp (by omega)]; exact h1) (And.intro (vp_in_nI ha (by decide)) (br_t (by rw [nI_clamp (by omega)]; exact h2) (And.intro (vp_in_nI ha (by decide)) (nm_r (by rw [nI_clamp (by omega)]) (nm_r (nI_pred g) hp)))))))
theorem ax_leave_b (post : SX → Prop) {g a : Nat} (hg : g < 20) (ha : a < 201) (h1 : fa (g + 1) = nI a) (h2 : ¬ af a = nI (g + 1)) (hp : post (nc, nt, ns, mn, n, na, nI g, ws, vs, en, rs, pc, tc, dc, cp, cf, mt, op, tk, tp, fp, sk, oc, of, bt, ba, rd, sl, ac, af, fa, fw, fv, wt, wd, wv, pr, mc)) : wpX_leave post (nc, nt, ns, mn, n, na, nI (g + 1), ws, vs, en, rs, pc, tc, dc, cp, cf, mt, op, tk, tp, fp, sk, oc, of, bt, ba, rd, sl, ac, af, fa, fw, fv, wt, wd, wv, pr, mc) :=
  br_f (nI_ne0 (by omega) (by omega)) (And.intro (vp_in_nI (by omega) (by decide)) (nm_r (e' := nI a) (by rw [nI_clamp (by omega)]; exact h1) (And.intro (vp_in_nI ha (by decide)) (br_f (by rw [nI_clamp (by omega)]; exact h2) (nm_r (nI_pred g) hp)))))
theorem ax_ix3 {t d : Nat} : nI t * 3 + nI d = nI (3 * t + d) := by
  rw [show (3 : Int32) = nI 3 from rfl, pk_mul, nI_add, Nat.mul_comm]
theorem ax_bnp_t (post : Int32 → SX → Prop) {q t d m p : Nat} (hq : q + 1 < 2100) (ht : t < 100) (h1 : wt q = nI t) (h2 : wd q = nI d) (h3 : fp t = nI m) (hd : d < m) (hm : m ≤ 3) (h4 : tp (3 * t + d) = nI p) (hp : post 1 (nc, nt, ns, mn, n, na, f, nI (q + 2), vs, en, rs, pc, tc, dc, cp, cf, mt, op, tk, tp, fp, sk, oc, of, bt, ba, rd, sl, ac, af, fa, fw, fv, upd wt (q + 1) (nI p), upd (upd wd q (nI (d + 1))) (q + 1) 0, wv, pr, mc)) : wpX_beginNextPart post (nc, nt, ns, mn, n, na, f, nI (q + 1), vs, en, rs, pc, tc, dc, cp, cf, mt, op, tk, tp, fp, sk, oc, of, bt, ba, rd, sl, ac, af, fa, fw, fv, wt, wd, wv, pr, mc) :=
  nm_r (nI_pred q) (And.intro (vp_in_nI (by omega) (by decide)) (nm_r (e' := nI t) (by rw [nI_clamp (by omega)]; exact h1) (And.intro (vp_in_nI (by omega) (by decide)) (nm_r (e' := nI d) (by rw [nI_clamp (by omega)]; exact h2) (And.intro (vp_in_nI ht (by decide)) (br_t (by rw [nI_clamp (by omega), h3]; exact nI_lt hd (by omega)) (And.intro (vp_in_nI (by omega) (by decide)) (nm_r (e' := upd wd q (nI (d + 1))) (by rw [nI_clamp (by omega), nI_1]) (And.intro (by rw [ax_ix3]; exact vp_in_nI (by omega) (by decide)) (by rw [ax_ix3, nI_clamp (by omega), h4]; exact ax_begin _ hq hp))))))))))
theorem ax_bnp_f (post : Int32 → SX → Prop) {q t d m : Nat} (hq : q < 2100) (ht : t < 100) (h1 : wt q = nI t) (h2 : wd q = nI d) (h3 : fp t = nI m) (hd : m ≤ d) (hm : d ≤ 3) (hp : post 0 (nc, nt, ns, mn, n, na, f, nI (q + 1), vs, en, rs, pc, tc, dc, cp, cf, mt, op, tk, tp, fp, sk, oc, of, bt, ba, rd, sl, ac, af, fa, fw, fv, wt, wd, wv, pr, mc)) : wpX_beginNextPart post (nc, nt, ns, mn, n, na, f, nI (q + 1), vs, en, rs, pc, tc, dc, cp, cf, mt, op, tk, tp, fp, sk, oc, of, bt, ba, rd, sl, ac, af, fa, fw, fv, wt, wd, wv, pr, mc) :=
  nm_r (nI_pred q) (And.intro (vp_in_nI (by omega) (by decide)) (nm_r (e' := nI t) (by rw [nI_clamp (by omega)]; exact h1) (And.intro (vp_in_nI (by omega) (by decide)) (nm_r (e' := nI d) (by rw [nI_clamp (by omega)]; exact h2) (And.intro (vp_in_nI ht (by decide)) (br_f (by rw [nI_clamp (by omega), h3]; exact nI_nlt hd (by omega)) hp))))))
theorem ax_fin_0 (post : SX → Prop) {q t : Nat} (hq : q < 2100) (ht : t < 100) (h1 : wt q = nI t) (h2 : op t = 0) (h : wpX_pushInt post (nc, nt, ns, mn, n, na, f, nI q, vs, en, rs, pc, tc, dc, cp, cf, mt, op, tk, tp, fp, sk, oc, of, bt, ba, rd, sl, ac, af, fa, fw, fv, wt, wd, wv, pr, mc) (tk t)) : wpX_finish post (nc, nt, ns, mn, n, na, f, nI (q + 1), vs, en, rs, pc, tc, dc, cp, cf, mt, op, tk, tp, fp, sk, oc, of, bt, ba, rd, sl, ac, af, fa, fw, fv, wt, wd, wv, pr, mc) :=
  nm_r (nI_pred q) (And.intro (vp_in_nI hq (by decide)) (nm_r (e' := nI t) (by rw [nI_clamp (by omega)]; exact h1) (And.intro (vp_in_nI ht (by decide)) (nm_r (e' := tk t) (by rw [nI_clamp (by omega)]) (And.intro (vp_in_nI ht (by decide)) (nm_r (e' := 0) (by rw [nI_clamp (by omega)]; exact h2) (br_f (by decide) (br_f (by decide) (br_t rfl h)))))))))
theorem ax_fin_1 (post : SX → Prop) {q t : Nat} (hq : q < 2100) (ht : t < 100) (h1 : wt q = nI t) (h2 : op t = 1) (h : wpX_push post (nc, nt, ns, mn, n, na, f, nI q, vs, en, rs, pc, tc, dc, cp, cf, mt, op, tk, tp, fp, sk, oc, of, bt, ba, rd, sl, ac, af, fa, fw, fv, wt, wd, wv, pr, mc) 4294967296) : wpX_finish post (nc, nt, ns, mn, n, na, f, nI (q + 1), vs, en, rs, pc, tc, dc, cp, cf, mt, op, tk, tp, fp, sk, oc, of, bt, ba, rd, sl, ac, af, fa, fw, fv, wt, wd, wv, pr, mc) :=
  nm_r (nI_pred q) (And.intro (vp_in_nI hq (by decide)) (nm_r (e' := nI t) (by rw [nI_clamp (by omega)]; exact h1) (And.intro (vp_in_nI ht (by decide)) (nm_r (e' := tk t) (by rw [nI_clamp (by omega)]) (And.intro (vp_in_nI ht (by decide)) (nm_r (e' := 1) (by rw [nI_clamp (by omega)]; exact h2) (br_f (by decide) (br_f (by decide) (br_f (by decide) (br_t rfl h))))))))))
theorem ax_fin_2 (post : SX → Prop) {q t : Nat} (hq : q < 2100) (ht : t < 100) (h1 : wt q = nI t) (h2 : op t = 2) (h : wpX_pushSlot post (nc, nt, ns, mn, n, na, f, nI q, vs, en, rs, pc, tc, dc, cp, cf, mt, op, tk, tp, fp, sk, oc, of, bt, ba, rd, sl, ac, af, fa, fw, fv, wt, wd, wv, pr, mc) 6) : wpX_finish post (nc, nt, ns, mn, n, na, f, nI (q + 1), vs, en, rs, pc, tc, dc, cp, cf, mt, op, tk, tp, fp, sk, oc, of, bt, ba, rd, sl, ac, af, fa, fw, fv, wt, wd, wv, pr, mc) :=
  nm_r (nI_pred q) (And.intro (vp_in_nI hq (by decide)) (nm_r (e' := nI t) (by rw [nI_clamp (by omega)]; exact h1) (And.intro (vp_in_nI ht (by decide)) (nm_r (e' := tk t) (by rw [nI_clamp (by omega)]) (And.intro (vp_in_nI ht (by decide)) (nm_r (e' := 2) (by rw [nI_clamp (by omega)]; exact h2) (br_f (by decide) (br_f (by decide) (br_f (by decide) (br_f (by decide) (br_t rfl h)))))))))))
theorem ax_fin_3 (post : SX → Prop) {q t : Nat} (hq : q < 2100) (ht : t < 100) (h1 : wt q = nI t) (h2 : op t = 3) (h : wpX_pushSlot post (nc, nt, ns, mn, n, na, f, nI q, vs, en, rs, pc, tc, dc, cp, cf, mt, op, tk, tp, fp, sk, oc, of, bt, ba, rd, sl, ac, af, fa, fw, fv, wt, wd, wv, pr, mc) (tk t)) : wpX_finish post (nc, nt, ns, mn, n, na, f, nI (q + 1), vs, en, rs, pc, tc, dc, cp, cf, mt, op, tk, tp, fp, sk, oc, of, bt, ba, rd, sl, ac, af, fa, fw, fv, wt, wd, wv, pr, mc) :=
  nm_r (nI_pred q) (And.intro (vp_in_nI hq (by decide)) (nm_r (e' := nI t) (by rw [nI_clamp (by omega)]; exact h1) (And.intro (vp_in_nI ht (by decide)) (nm_r (e' := tk t) (by rw [nI_clamp (by omega)]) (And.intro (vp_in_nI ht (by decide)) (nm_r (e' := 3) (by rw [nI_clamp (by omega)]; exact h2) (br_f (by decide) (br_f (by decide) (br_f (by decide) (br_f (by decide) (br_f (by decide) (br_t rfl h))))))))))))
theorem ax_fin_4 (post : SX → Prop) {q t : Nat} (hq : q < 2100) (ht : t < 100) (h1 : wt q = nI t) (h2 : op t = 4) (h : wpX_finishField post (nc, nt, ns, mn, n, na, f, nI q, vs, en, rs, pc, tc, dc, cp, cf, mt, op, tk, tp, fp, sk, oc, of, bt, ba, rd, sl, ac, af, fa, fw, fv, wt, wd, wv, pr, mc) (tk t)) : wpX_finish post (nc, nt, ns, mn, n, na, f, nI (q + 1), vs, en, rs, pc, tc, dc, cp, cf, mt, op, tk, tp, fp, sk, oc, of, bt, ba, rd, sl, ac, af, fa, fw, fv, wt, wd, wv, pr, mc) :=
  nm_r (nI_pred q) (And.intro (vp_in_nI hq (by decide)) (nm_r (e' := nI t) (by rw [nI_clamp (by omega)]; exact h1) (And.intro (vp_in_nI ht (by decide)) (nm_r (e' := tk t) (by rw [nI_clamp (by omega)]) (And.intro (vp_in_nI ht (by decide)) (nm_r (e' := 4) (by rw [nI_clamp (by omega)]; exact h2) (br_f (by decide) (br_f (by decide) (br_f (by decide) (br_f (by decide) (br_f (by decide) (br_f (by decide) (br_t rfl h)))))))))))))
theorem ax_fin_5 (post : SX → Prop) {q t : Nat} (hq : q < 2100) (ht : t < 100) (h1 : wt q = nI t) (h2 : op t = 5) (h : wpX_finishNew post (nc, nt, ns, mn, n, na, f, nI q, vs, en, rs, pc, tc, dc, cp, cf, mt, op, tk, tp, fp, sk, oc, of, bt, ba, rd, sl, ac, af, fa, fw, fv, wt, wd, wv, pr, mc) (tk t)) : wpX_finish post (nc, nt, ns, mn, n, na, f, nI (q + 1), vs, en, rs, pc, tc, dc, cp, cf, mt, op, tk, tp, fp, sk, oc, of, bt, ba, rd, sl, ac, af, fa, fw, fv, wt, wd, wv, pr, mc) :=
  nm_r (nI_pred q) (And.intro (vp_in_nI hq (by decide)) (nm_r (e' := nI t) (by rw [nI_clamp (by omega)]; exact h1) (And.intro (vp_in_nI ht (by decide)) (nm_r (e' := tk t) (by rw [nI_clamp (by omega)]) (And.intro (vp_in_nI ht (by decide)) (nm_r (e' := 5) (by rw [nI_clamp (by omega)]; exact h2) (br_f (by decide) (br_f (by decide) (br_f (by decide) (br_f (by decide) (br_f (by decide) (br_f (by decide) (br_f (by decide) (br_t rfl h))))))))))))))
theorem ax_fin_6 (post : SX → Prop) {q t : Nat} (hq : q < 2100) (ht : t < 100) (h1 : wt q = nI t) (h2 : op t = 6) (h : wpX_finishSuper post (nc, nt, ns, mn, n, na, f, nI q, vs, en, rs, pc, tc, dc, cp, cf, mt, op, tk, tp, fp, sk, oc, of, bt, ba, rd, sl, ac, af, fa, fw, fv, wt, wd, wv, pr, mc) (tk t)) : wpX_finish post (nc, nt, ns, mn, n, na, f, nI (q + 1), vs, en, rs, pc, tc, dc, cp, cf, mt, op, tk, tp, fp, sk, oc, of, bt, ba, rd, sl, ac, af, fa, fw, fv, wt, wd, wv, pr, mc) :=
  nm_r (nI_pred q) (And.intro (vp_in_nI hq (by decide)) (nm_r (e' := nI t) (by rw [nI_clamp (by omega)]; exact h1) (And.intro (vp_in_nI ht (by decide)) (nm_r (e' := tk t) (by rw [nI_clamp (by omega)]) (And.intro (vp_in_nI ht (by decide)) (nm_r (e' := 6) (by rw [nI_clamp (by omega)]; exact h2) (br_f (by decide) (br_f (by decide) (br_f (by decide) (br_f (by decide) (br_f (by decide) (br_f (by decide) (br_f (by decide) (br_f (by decide) (br_t rfl h)))))))))))))))
theorem ax_fin_7 (post : SX → Prop) {q t : Nat} (hq : q < 2100) (ht : t < 100) (h1 : wt q = nI t) (h2 : op t = 7) (h : wpX_finishSet post (nc, nt, ns, mn, n, na, f, nI q, vs, en, rs, pc, tc, dc, cp, cf, mt, op, tk, tp, fp, sk, oc, of, bt, ba, rd, sl, ac, af, fa, fw, fv, wt, wd, wv, pr, mc) (tk t)) : wpX_finish post (nc, nt, ns, mn, n, na, f, nI (q + 1), vs, en, rs, pc, tc, dc, cp, cf, mt, op, tk, tp, fp, sk, oc, of, bt, ba, rd, sl, ac, af, fa, fw, fv, wt, wd, wv, pr, mc) :=
  nm_r (nI_pred q) (And.intro (vp_in_nI hq (by decide)) (nm_r (e' := nI t) (by rw [nI_clamp (by omega)]; exact h1) (And.intro (vp_in_nI ht (by decide)) (nm_r (e' := tk t) (by rw [nI_clamp (by omega)]) (And.intro (vp_in_nI ht (by decide)) (nm_r (e' := 7) (by rw [nI_clamp (by omega)]; exact h2) (br_f (by decide) (br_f (by decide) (br_f (by decide) (br_f (by decide) (br_f (by decide) (br_f (by decide) (br_f (by decide) (br_f (by decide) (br_f (by decide) (br_t rfl h))))))))))))))))
theorem ax_fin_8 (post : SX → Prop) {q t : Nat} (hq : q < 2100) (ht : t < 100) (h1 : wt q = nI t) (h2 : op t = 8) (h : wpX_finishSetField post (nc, nt, ns, mn, n, na, f, nI q, vs, en, rs, pc, tc, dc, cp, cf, mt, op, tk, tp, fp, sk, oc, of, bt, ba, rd, sl, ac, af, fa, fw, fv, wt, wd, wv, pr, mc) (tk t)) : wpX_finish post (nc, nt, ns, mn, n, na, f, nI (q + 1), vs, en, rs, pc, tc, dc, cp, cf, mt, op, tk, tp, fp, sk, oc, of, bt, ba, rd, sl, ac, af, fa, fw, fv, wt, wd, wv, pr, mc) :=
  nm_r (nI_pred q) (And.intro (vp_in_nI hq (by decide)) (nm_r (e' := nI t) (by rw [nI_clamp (by omega)]; exact h1) (And.intro (vp_in_nI ht (by decide)) (nm_r (e' := tk t) (by rw [nI_clamp (by omega)]) (And.intro (vp_in_nI ht (by decide)) (nm_r (e' := 8) (by rw [nI_clamp (by omega)]; exact h2) (br_f (by decide) (br_f (by decide) (br_f (by decide) (br_f (by decide) (br_f (by decide) (br_f (by decide) (br_f (by decide) (br_f (by decide) (br_f (by decide) (br_f (by decide) (br_t rfl h)))))))))))))))))
theorem ax_fin_9 (post : SX → Prop) {q t : Nat} (hq : q < 2100) (ht : t < 100) (h1 : wt q = nI t) (h2 : op t = 9) (h : wpX_finishIs post (nc, nt, ns, mn, n, na, f, nI q, vs, en, rs, pc, tc, dc, cp, cf, mt, op, tk, tp, fp, sk, oc, of, bt, ba, rd, sl, ac, af, fa, fw, fv, wt, wd, wv, pr, mc) (tk t)) : wpX_finish post (nc, nt, ns, mn, n, na, f, nI (q + 1), vs, en, rs, pc, tc, dc, cp, cf, mt, op, tk, tp, fp, sk, oc, of, bt, ba, rd, sl, ac, af, fa, fw, fv, wt, wd, wv, pr, mc) :=
  nm_r (nI_pred q) (And.intro (vp_in_nI hq (by decide)) (nm_r (e' := nI t) (by rw [nI_clamp (by omega)]; exact h1) (And.intro (vp_in_nI ht (by decide)) (nm_r (e' := tk t) (by rw [nI_clamp (by omega)]) (And.intro (vp_in_nI ht (by decide)) (nm_r (e' := 9) (by rw [nI_clamp (by omega)]; exact h2) (br_f (by decide) (br_f (by decide) (br_f (by decide) (br_f (by decide) (br_f (by decide) (br_f (by decide) (br_f (by decide) (br_f (by decide) (br_f (by decide) (br_f (by decide) (br_f (by decide) (br_t rfl h))))))))))))))))))
theorem ax_fin_10 (post : SX → Prop) {q t : Nat} (hq : q < 2100) (ht : t < 100) (h1 : wt q = nI t) (h2 : op t = 10) (h : wpX_finishBlock post (nc, nt, ns, mn, n, na, f, nI q, vs, en, rs, pc, tc, dc, cp, cf, mt, op, tk, tp, fp, sk, oc, of, bt, ba, rd, sl, ac, af, fa, fw, fv, wt, wd, wv, pr, mc) (nI t)) : wpX_finish post (nc, nt, ns, mn, n, na, f, nI (q + 1), vs, en, rs, pc, tc, dc, cp, cf, mt, op, tk, tp, fp, sk, oc, of, bt, ba, rd, sl, ac, af, fa, fw, fv, wt, wd, wv, pr, mc) :=
  nm_r (nI_pred q) (And.intro (vp_in_nI hq (by decide)) (nm_r (e' := nI t) (by rw [nI_clamp (by omega)]; exact h1) (And.intro (vp_in_nI ht (by decide)) (nm_r (e' := tk t) (by rw [nI_clamp (by omega)]) (And.intro (vp_in_nI ht (by decide)) (nm_r (e' := 10) (by rw [nI_clamp (by omega)]; exact h2) (br_f (by decide) (br_f (by decide) (br_f (by decide) (br_f (by decide) (br_f (by decide) (br_f (by decide) (br_f (by decide) (br_f (by decide) (br_f (by decide) (br_f (by decide) (br_f (by decide) (br_f (by decide) (br_t rfl h)))))))))))))))))))
theorem ax_fin_11 (post : SX → Prop) {q t : Nat} (hq : q < 2100) (ht : t < 100) (h1 : wt q = nI t) (h2 : op t = 11) (h : wpX_finishCall post (nc, nt, ns, mn, n, na, f, nI q, vs, en, rs, pc, tc, dc, cp, cf, mt, op, tk, tp, fp, sk, oc, of, bt, ba, rd, sl, ac, af, fa, fw, fv, wt, wd, wv, pr, mc) 0) : wpX_finish post (nc, nt, ns, mn, n, na, f, nI (q + 1), vs, en, rs, pc, tc, dc, cp, cf, mt, op, tk, tp, fp, sk, oc, of, bt, ba, rd, sl, ac, af, fa, fw, fv, wt, wd, wv, pr, mc) :=
  nm_r (nI_pred q) (And.intro (vp_in_nI hq (by decide)) (nm_r (e' := nI t) (by rw [nI_clamp (by omega)]; exact h1) (And.intro (vp_in_nI ht (by decide)) (nm_r (e' := tk t) (by rw [nI_clamp (by omega)]) (And.intro (vp_in_nI ht (by decide)) (nm_r (e' := 11) (by rw [nI_clamp (by omega)]; exact h2) (br_f (by decide) (br_f (by decide) (br_f (by decide) (br_f (by decide) (br_f (by decide) (br_f (by decide) (br_f (by decide) (br_f (by decide) (br_f (by decide) (br_f (by decide) (br_f (by decide) (br_f (by decide) (br_f (by decide) (br_t rfl h))))))))))))))))))))
theorem ax_fin_12 (post : SX → Prop) {q t : Nat} (hq : q < 2100) (ht : t < 100) (h1 : wt q = nI t) (h2 : op t = 12) (h : wpX_finishReturn post (nc, nt, ns, mn, n, na, f, nI q, vs, en, rs, pc, tc, dc, cp, cf, mt, op, tk, tp, fp, sk, oc, of, bt, ba, rd, sl, ac, af, fa, fw, fv, wt, wd, wv, pr, mc)) : wpX_finish post (nc, nt, ns, mn, n, na, f, nI (q + 1), vs, en, rs, pc, tc, dc, cp, cf, mt, op, tk, tp, fp, sk, oc, of, bt, ba, rd, sl, ac, af, fa, fw, fv, wt, wd, wv, pr, mc) :=
  nm_r (nI_pred q) (And.intro (vp_in_nI hq (by decide)) (nm_r (e' := nI t) (by rw [nI_clamp (by omega)]; exact h1) (And.intro (vp_in_nI ht (by decide)) (nm_r (e' := tk t) (by rw [nI_clamp (by omega)]) (And.intro (vp_in_nI ht (by decide)) (nm_r (e' := 12) (by rw [nI_clamp (by omega)]; exact h2) (br_f (by decide) (br_f (by decide) (br_f (by decide) (br_f (by decide) (br_f (by decide) (br_f (by decide) (br_f (by decide) (br_f (by decide) (br_f (by decide) (br_f (by decide) (br_f (by decide) (br_f (by decide) (br_f (by decide) (br_f (by decide) (br_t rfl h)))))))))))))))))))))
theorem ax_fin_13 (post : SX → Prop) {q t : Nat} (hq : q < 2100) (ht : t < 100) (h1 : wt q = nI t) (h2 : op t = 13) (h : wpX_finishPrint post (nc, nt, ns, mn, n, na, f, nI q, vs, en, rs, pc, tc, dc, cp, cf, mt, op, tk, tp, fp, sk, oc, of, bt, ba, rd, sl, ac, af, fa, fw, fv, wt, wd, wv, pr, mc)) : wpX_finish post (nc, nt, ns, mn, n, na, f, nI (q + 1), vs, en, rs, pc, tc, dc, cp, cf, mt, op, tk, tp, fp, sk, oc, of, bt, ba, rd, sl, ac, af, fa, fw, fv, wt, wd, wv, pr, mc) :=
  nm_r (nI_pred q) (And.intro (vp_in_nI hq (by decide)) (nm_r (e' := nI t) (by rw [nI_clamp (by omega)]; exact h1) (And.intro (vp_in_nI ht (by decide)) (nm_r (e' := tk t) (by rw [nI_clamp (by omega)]) (And.intro (vp_in_nI ht (by decide)) (nm_r (e' := 13) (by rw [nI_clamp (by omega)]; exact h2) (br_f (by decide) (br_f (by decide) (br_f (by decide) (br_f (by decide) (br_f (by decide) (br_f (by decide) (br_f (by decide) (br_f (by decide) (br_f (by decide) (br_f (by decide) (br_f (by decide) (br_f (by decide) (br_f (by decide) (br_f (by decide) (br_f (by decide) (br_t rfl h))))))))))))))))))))))
theorem ax_fin_14 (post : SX → Prop) {q t : Nat} (hq : q < 2100) (ht : t < 100) (h1 : wt q = nI t) (h2 : op t = 14) (h : wpX_finishSend post (nc, nt, ns, mn, n, na, f, nI q, vs, en, rs, pc, tc, dc, cp, cf, mt, op, tk, tp, fp, sk, oc, of, bt, ba, rd, sl, ac, af, fa, fw, fv, wt, wd, wv, pr, mc) (tk t)) : wpX_finish post (nc, nt, ns, mn, n, na, f, nI (q + 1), vs, en, rs, pc, tc, dc, cp, cf, mt, op, tk, tp, fp, sk, oc, of, bt, ba, rd, sl, ac, af, fa, fw, fv, wt, wd, wv, pr, mc) :=
  nm_r (nI_pred q) (And.intro (vp_in_nI hq (by decide)) (nm_r (e' := nI t) (by rw [nI_clamp (by omega)]; exact h1) (And.intro (vp_in_nI ht (by decide)) (nm_r (e' := tk t) (by rw [nI_clamp (by omega)]) (And.intro (vp_in_nI ht (by decide)) (nm_r (e' := 14) (by rw [nI_clamp (by omega)]; exact h2) (br_f (by decide) (br_f (by decide) (br_f (by decide) (br_f (by decide) (br_f (by decide) (br_f (by decide) (br_f (by decide) (br_f (by decide) (br_f (by decide) (br_f (by decide) (br_f (by decide) (br_f (by decide) (br_f (by decide) (br_f (by decide) (br_f (by decide) (br_f (by decide) (br_t rfl h)))))))))))))))))))))))
theorem ax_fin_15 (post : SX → Prop) {q t : Nat} (hq : q < 2100) (ht : t < 100) (h1 : wt q = nI t) (h2 : op t = 15) (h : wpX_finishArithmetic post (nc, nt, ns, mn, n, na, f, nI q, vs, en, rs, pc, tc, dc, cp, cf, mt, op, tk, tp, fp, sk, oc, of, bt, ba, rd, sl, ac, af, fa, fw, fv, wt, wd, wv, pr, mc) 15) : wpX_finish post (nc, nt, ns, mn, n, na, f, nI (q + 1), vs, en, rs, pc, tc, dc, cp, cf, mt, op, tk, tp, fp, sk, oc, of, bt, ba, rd, sl, ac, af, fa, fw, fv, wt, wd, wv, pr, mc) :=
  nm_r (nI_pred q) (And.intro (vp_in_nI hq (by decide)) (nm_r (e' := nI t) (by rw [nI_clamp (by omega)]; exact h1) (And.intro (vp_in_nI ht (by decide)) (nm_r (e' := tk t) (by rw [nI_clamp (by omega)]) (And.intro (vp_in_nI ht (by decide)) (nm_r (e' := 15) (by rw [nI_clamp (by omega)]; exact h2) (br_f (by decide) (br_f (by decide) (br_f (by decide) (br_f (by decide) (br_f (by decide) (br_f (by decide) (br_f (by decide) (br_f (by decide) (br_f (by decide) (br_f (by decide) (br_f (by decide) (br_f (by decide) (br_f (by decide) (br_f (by decide) (br_f (by decide) (br_f (by decide) (br_f (by decide) (br_t rfl h))))))))))))))))))))))))
theorem ax_fin_16 (post : SX → Prop) {q t : Nat} (hq : q < 2100) (ht : t < 100) (h1 : wt q = nI t) (h2 : op t = 16) (h : wpX_finishArithmetic post (nc, nt, ns, mn, n, na, f, nI q, vs, en, rs, pc, tc, dc, cp, cf, mt, op, tk, tp, fp, sk, oc, of, bt, ba, rd, sl, ac, af, fa, fw, fv, wt, wd, wv, pr, mc) 16) : wpX_finish post (nc, nt, ns, mn, n, na, f, nI (q + 1), vs, en, rs, pc, tc, dc, cp, cf, mt, op, tk, tp, fp, sk, oc, of, bt, ba, rd, sl, ac, af, fa, fw, fv, wt, wd, wv, pr, mc) :=
  nm_r (nI_pred q) (And.intro (vp_in_nI hq (by decide)) (nm_r (e' := nI t) (by rw [nI_clamp (by omega)]; exact h1) (And.intro (vp_in_nI ht (by decide)) (nm_r (e' := tk t) (by rw [nI_clamp (by omega)]) (And.intro (vp_in_nI ht (by decide)) (nm_r (e' := 16) (by rw [nI_clamp (by omega)]; exact h2) (br_f (by decide) (br_f (by decide) (br_f (by decide) (br_f (by decide) (br_f (by decide) (br_f (by decide) (br_f (by decide) (br_f (by decide) (br_f (by decide) (br_f (by decide) (br_f (by decide) (br_f (by decide) (br_f (by decide) (br_f (by decide) (br_f (by decide) (br_f (by decide) (br_f (by decide) (br_f (by decide) (br_t rfl h)))))))))))))))))))))))))
theorem ax_fin_17 (post : SX → Prop) {q t : Nat} (hq : q < 2100) (ht : t < 100) (h1 : wt q = nI t) (h2 : op t = 17) (h : wpX_finishArithmetic post (nc, nt, ns, mn, n, na, f, nI q, vs, en, rs, pc, tc, dc, cp, cf, mt, op, tk, tp, fp, sk, oc, of, bt, ba, rd, sl, ac, af, fa, fw, fv, wt, wd, wv, pr, mc) 17) : wpX_finish post (nc, nt, ns, mn, n, na, f, nI (q + 1), vs, en, rs, pc, tc, dc, cp, cf, mt, op, tk, tp, fp, sk, oc, of, bt, ba, rd, sl, ac, af, fa, fw, fv, wt, wd, wv, pr, mc) :=
  nm_r (nI_pred q) (And.intro (vp_in_nI hq (by decide)) (nm_r (e' := nI t) (by rw [nI_clamp (by omega)]; exact h1) (And.intro (vp_in_nI ht (by decide)) (nm_r (e' := tk t) (by rw [nI_clamp (by omega)]) (And.intro (vp_in_nI ht (by decide)) (nm_r (e' := 17) (by rw [nI_clamp (by omega)]; exact h2) (br_f (by decide) (br_f (by decide) (br_f (by decide) (br_f (by decide) (br_f (by decide) (br_f (by decide) (br_f (by decide) (br_f (by decide) (br_f (by decide) (br_f (by decide) (br_f (by decide) (br_f (by decide) (br_f (by decide) (br_f (by decide) (br_f (by decide) (br_f (by decide) (br_f (by decide) (br_f (by decide) (br_f (by decide) (br_t rfl h))))))))))))))))))))))))))
theorem ax_fin_18 (post : SX → Prop) {q t : Nat} (hq : q < 2100) (ht : t < 100) (h1 : wt q = nI t) (h2 : op t = 18) (h : wpX_finishArithmetic post (nc, nt, ns, mn, n, na, f, nI q, vs, en, rs, pc, tc, dc, cp, cf, mt, op, tk, tp, fp, sk, oc, of, bt, ba, rd, sl, ac, af, fa, fw, fv, wt, wd, wv, pr, mc) 18) : wpX_finish post (nc, nt, ns, mn, n, na, f, nI (q + 1), vs, en, rs, pc, tc, dc, cp, cf, mt, op, tk, tp, fp, sk, oc, of, bt, ba, rd, sl, ac, af, fa, fw, fv, wt, wd, wv, pr, mc) :=
  nm_r (nI_pred q) (And.intro (vp_in_nI hq (by decide)) (nm_r (e' := nI t) (by rw [nI_clamp (by omega)]; exact h1) (And.intro (vp_in_nI ht (by decide)) (nm_r (e' := tk t) (by rw [nI_clamp (by omega)]) (And.intro (vp_in_nI ht (by decide)) (nm_r (e' := 18) (by rw [nI_clamp (by omega)]; exact h2) (br_f (by decide) (br_f (by decide) (br_f (by decide) (br_f (by decide) (br_f (by decide) (br_f (by decide) (br_f (by decide) (br_f (by decide) (br_f (by decide) (br_f (by decide) (br_f (by decide) (br_f (by decide) (br_f (by decide) (br_f (by decide) (br_f (by decide) (br_f (by decide) (br_f (by decide) (br_f (by decide) (br_f (by decide) (br_f (by decide) (br_t rfl h)))))))))))))))))))))))))))
theorem ax_fin_19 (post : SX → Prop) {q t : Nat} (hq : q < 2100) (ht : t < 100) (h1 : wt q = nI t) (h2 : op t = 19) (h : wpX_finishSame post (nc, nt, ns, mn, n, na, f, nI q, vs, en, rs, pc, tc, dc, cp, cf, mt, op, tk, tp, fp, sk, oc, of, bt, ba, rd, sl, ac, af, fa, fw, fv, wt, wd, wv, pr, mc)) : wpX_finish post (nc, nt, ns, mn, n, na, f, nI (q + 1), vs, en, rs, pc, tc, dc, cp, cf, mt, op, tk, tp, fp, sk, oc, of, bt, ba, rd, sl, ac, af, fa, fw, fv, wt, wd, wv, pr, mc) :=
  nm_r (nI_pred q) (And.intro (vp_in_nI hq (by decide)) (nm_r (e' := nI t) (by rw [nI_clamp (by omega)]; exact h1) (And.intro (vp_in_nI ht (by decide)) (nm_r (e' := tk t) (by rw [nI_clamp (by omega)]) (And.intro (vp_in_nI ht (by decide)) (nm_r (e' := 19) (by rw [nI_clamp (by omega)]; exact h2) (br_f (by decide) (br_f (by decide) (br_f (by decide) (br_f (by decide) (br_f (by decide) (br_f (by decide) (br_f (by decide) (br_f (by decide) (br_f (by decide) (br_f (by decide) (br_f (by decide) (br_f (by decide) (br_f (by decide) (br_f (by decide) (br_f (by decide) (br_f (by decide) (br_f (by decide) (br_f (by decide) (br_f (by decide) (br_f (by decide) (br_f (by decide) (br_t rfl h))))))))))))))))))))))))))))
theorem ax_fin_20 (post : SX → Prop) {q t : Nat} (hq : q < 2100) (ht : t < 100) (h1 : wt q = nI t) (h2 : op t = 20) (h : wpX_finishThen post (nc, nt, ns, mn, n, na, f, nI q, vs, en, rs, pc, tc, dc, cp, cf, mt, op, tk, tp, fp, sk, oc, of, bt, ba, rd, sl, ac, af, fa, fw, fv, wt, wd, wv, pr, mc)) : wpX_finish post (nc, nt, ns, mn, n, na, f, nI (q + 1), vs, en, rs, pc, tc, dc, cp, cf, mt, op, tk, tp, fp, sk, oc, of, bt, ba, rd, sl, ac, af, fa, fw, fv, wt, wd, wv, pr, mc) :=
  nm_r (nI_pred q) (And.intro (vp_in_nI hq (by decide)) (nm_r (e' := nI t) (by rw [nI_clamp (by omega)]; exact h1) (And.intro (vp_in_nI ht (by decide)) (nm_r (e' := tk t) (by rw [nI_clamp (by omega)]) (And.intro (vp_in_nI ht (by decide)) (nm_r (e' := 20) (by rw [nI_clamp (by omega)]; exact h2) (br_f (by decide) (br_f (by decide) (br_f (by decide) (br_f (by decide) (br_f (by decide) (br_f (by decide) (br_f (by decide) (br_f (by decide) (br_f (by decide) (br_f (by decide) (br_f (by decide) (br_f (by decide) (br_f (by decide) (br_f (by decide) (br_f (by decide) (br_f (by decide) (br_f (by decide) (br_f (by decide) (br_f (by decide) (br_f (by decide) (br_f (by decide) (br_f (by decide) (br_t rfl h)))))))))))))))))))))))))))))
theorem ax_fin_21 (post : SX → Prop) {q t : Nat} (hq : q < 2100) (ht : t < 100) (h1 : wt q = nI t) (h2 : op t = 21) (h : wpX_finishLoop post (nc, nt, ns, mn, n, na, f, nI q, vs, en, rs, pc, tc, dc, cp, cf, mt, op, tk, tp, fp, sk, oc, of, bt, ba, rd, sl, ac, af, fa, fw, fv, wt, wd, wv, pr, mc) (nI t)) : wpX_finish post (nc, nt, ns, mn, n, na, f, nI (q + 1), vs, en, rs, pc, tc, dc, cp, cf, mt, op, tk, tp, fp, sk, oc, of, bt, ba, rd, sl, ac, af, fa, fw, fv, wt, wd, wv, pr, mc) :=
  nm_r (nI_pred q) (And.intro (vp_in_nI hq (by decide)) (nm_r (e' := nI t) (by rw [nI_clamp (by omega)]; exact h1) (And.intro (vp_in_nI ht (by decide)) (nm_r (e' := tk t) (by rw [nI_clamp (by omega)]) (And.intro (vp_in_nI ht (by decide)) (nm_r (e' := 21) (by rw [nI_clamp (by omega)]; exact h2) (br_f (by decide) (br_f (by decide) (br_f (by decide) (br_f (by decide) (br_f (by decide) (br_f (by decide) (br_f (by decide) (br_f (by decide) (br_f (by decide) (br_f (by decide) (br_f (by decide) (br_f (by decide) (br_f (by decide) (br_f (by decide) (br_f (by decide) (br_f (by decide) (br_f (by decide) (br_f (by decide) (br_f (by decide) (br_f (by decide) (br_f (by decide) (br_f (by decide) (br_f (by decide) (br_t rfl h))))))))))))))))))))))))))))))
theorem ax_fin_22 (post : SX → Prop) {q t : Nat} (hq : q < 2100) (ht : t < 100) (h1 : wt q = nI t) (h2 : op t = 22) (h : wpX_finishCall post (nc, nt, ns, mn, n, na, f, nI q, vs, en, rs, pc, tc, dc, cp, cf, mt, op, tk, tp, fp, sk, oc, of, bt, ba, rd, sl, ac, af, fa, fw, fv, wt, wd, wv, pr, mc) 1) : wpX_finish post (nc, nt, ns, mn, n, na, f, nI (q + 1), vs, en, rs, pc, tc, dc, cp, cf, mt, op, tk, tp, fp, sk, oc, of, bt, ba, rd, sl, ac, af, fa, fw, fv, wt, wd, wv, pr, mc) :=
  nm_r (nI_pred q) (And.intro (vp_in_nI hq (by decide)) (nm_r (e' := nI t) (by rw [nI_clamp (by omega)]; exact h1) (And.intro (vp_in_nI ht (by decide)) (nm_r (e' := tk t) (by rw [nI_clamp (by omega)]) (And.intro (vp_in_nI ht (by decide)) (nm_r (e' := 22) (by rw [nI_clamp (by omega)]; exact h2) (br_f (by decide) (br_f (by decide) (br_f (by decide) (br_f (by decide) (br_f (by decide) (br_f (by decide) (br_f (by decide) (br_f (by decide) (br_f (by decide) (br_f (by decide) (br_f (by decide) (br_f (by decide) (br_f (by decide) (br_f (by decide) (br_f (by decide) (br_f (by decide) (br_f (by decide) (br_f (by decide) (br_f (by decide) (br_f (by decide) (br_f (by decide) (br_f (by decide) (br_f (by decide) (br_f (by decide) (br_t rfl h)))))))))))))))))))))))))))))))
theorem ax_fin_23 (post : SX → Prop) {q t : Nat} (hq : q < 2100) (ht : t < 100) (h1 : wt q = nI t) (h2 : op t = 23) (h : wpX_finishChoose post (nc, nt, ns, mn, n, na, f, nI q, vs, en, rs, pc, tc, dc, cp, cf, mt, op, tk, tp, fp, sk, oc, of, bt, ba, rd, sl, ac, af, fa, fw, fv, wt, wd, wv, pr, mc) (nI t)) : wpX_finish post (nc, nt, ns, mn, n, na, f, nI (q + 1), vs, en, rs, pc, tc, dc, cp, cf, mt, op, tk, tp, fp, sk, oc, of, bt, ba, rd, sl, ac, af, fa, fw, fv, wt, wd, wv, pr, mc) :=
  nm_r (nI_pred q) (And.intro (vp_in_nI hq (by decide)) (nm_r (e' := nI t) (by rw [nI_clamp (by omega)]; exact h1) (And.intro (vp_in_nI ht (by decide)) (nm_r (e' := tk t) (by rw [nI_clamp (by omega)]) (And.intro (vp_in_nI ht (by decide)) (nm_r (e' := 23) (by rw [nI_clamp (by omega)]; exact h2) (br_f (by decide) (br_f (by decide) (br_f (by decide) (br_f (by decide) (br_f (by decide) (br_f (by decide) (br_f (by decide) (br_f (by decide) (br_f (by decide) (br_f (by decide) (br_f (by decide) (br_f (by decide) (br_f (by decide) (br_f (by decide) (br_f (by decide) (br_f (by decide) (br_f (by decide) (br_f (by decide) (br_f (by decide) (br_f (by decide) (br_f (by decide) (br_f (by decide) (br_f (by decide) (br_f (by decide) (br_f (by decide) (br_t rfl h))))))))))))))))))))))))))))))))
end
end
section
section
variable {nc nt ns mn n na f ws vs en pc tc dc : Int32} {rs : Int64} {cp cf mt op tk tp fp sk oc bt ba rd ac af fa fw fv wt wd pr mc : Nat → Int32} {of sl wv : Nat → Int64}
theorem ax_slot (post : Int32 → Prop) {g a j : Nat} (hg : g < 21) (h1 : fa g = nI a) (hp : post (nI (a * 7 + j))) : wpX_slotIndex post (nc, nt, ns, mn, n, na, nI g, ws, vs, en, rs, pc, tc, dc, cp, cf, mt, op, tk, tp, fp, sk, oc, of, bt, ba, rd, sl, ac, af, fa, fw, fv, wt, wd, wv, pr, mc) (nI j) :=
  And.intro (vp_in_nI hg (by decide)) (by rw [nI_clamp (by omega), h1, show (7 : Int32) = nI 7 from rfl, pk_mul, nI_add]; exact hp)
theorem ax_num (post : Int32 → Prop) {s i : Int32} (h : post i) : wpX_numberOf post (vb_pk s i) := by
  unfold wpX_numberOf
  rw [vb_n]
  exact h
theorem ax_sort (post : Int32 → Prop) {x : Int64} {s : Int32} (h0 : vb_T x = s) (h : post s) : wpX_sortOf post x := by
  subst h0
  exact h
theorem ax_args (post : Int32 → Prop) {s : Nat} (hs : s < 6) (h : post (nI (s % 3))) : wpX_argumentsOf post (nI s) :=
  And.intro (by decide) (by rw [show (3 : Int32) = nI 3 from rfl, pk_rem (by omega) (by omega) (by omega)]; exact h)
theorem ax_pushSlot (post : SX → Prop) {g a j q : Nat} (hg : g < 21) (ha : a < 201) (hj : j < 7) (hq : q < 2100) (h1 : fa g = nI a) (hp : post (nc, nt, ns, mn, n, na, nI g, ws, nI (q + 1), en, rs, pc, tc, dc, cp, cf, mt, op, tk, tp, fp, sk, oc, of, bt, ba, rd, sl, ac, af, fa, fw, fv, wt, wd, vp_updL wv q (sl (a * 7 + j)), pr, mc)) : wpX_pushSlot post (nc, nt, ns, mn, n, na, nI g, ws, nI q, en, rs, pc, tc, dc, cp, cf, mt, op, tk, tp, fp, sk, oc, of, bt, ba, rd, sl, ac, af, fa, fw, fv, wt, wd, wv, pr, mc) (nI j) := by
  unfold wpX_pushSlot
  exact ax_slot _ hg h1 (And.intro (vp_in_nI (by omega) (by decide)) (by rw [nI_clamp (by omega)]; exact ax_push _ hq hp))
theorem ax_fi_n (post : Int32 → Prop) {g a : Nat} {k : Int32} (hg : g < 21) (ha : a < 201) (h1 : fa g = nI a) (h2 : ¬ vb_T (sl (a * 7 + 6)) = 4) (hp : post (-1)) : wpX_fieldIndex post (nc, nt, ns, mn, n, na, nI g, ws, vs, en, rs, pc, tc, dc, cp, cf, mt, op, tk, tp, fp, sk, oc, of, bt, ba, rd, sl, ac, af, fa, fw, fv, wt, wd, wv, pr, mc) k := by
  unfold wpX_fieldIndex
  exact ax_slot (j := 6) _ hg h1 (And.intro (vp_in_nI (by omega) (by decide)) (nm_r (e' := sl (a * 7 + 6)) (by rw [nI_clamp (by omega)]) (br_f h2 hp)))
theorem ax_fi_s (post : Int32 → Prop) {g a o c m k : Nat} (hg : g < 21) (ha : a < 201) (h1 : fa g = nI a) (h2 : sl (a * 7 + 6) = vb_pk 4 (nI o)) (ho : o < 200) (h3 : oc o = nI c) (hc : c < 6) (h4 : cf c = nI m) (hm : m ≤ k) (hk : k < 4) (hp : post (-1)) : wpX_fieldIndex post (nc, nt, ns, mn, n, na, nI g, ws, vs, en, rs, pc, tc, dc, cp, cf, mt, op, tk, tp, fp, sk, oc, of, bt, ba, rd, sl, ac, af, fa, fw, fv, wt, wd, wv, pr, mc) (nI k) := by
  unfold wpX_fieldIndex
  exact ax_slot (j := 6) _ hg h1 (And.intro (vp_in_nI (by omega) (by decide)) (nm_r (e' := vb_pk 4 (nI o)) (by rw [nI_clamp (by omega)]; exact h2) (ax_sort _ (vC_4 _) (br_t rfl (ax_num _ (And.intro (vp_in_nI ho (by decide)) (And.intro (by rw [nI_clamp (by omega), h3]; exact vp_in_nI hc (by decide)) (br_t (by rw [nI_clamp (n := o) (by omega), h3, nI_clamp (by omega), h4]; exact nI_le hm (by omega)) hp))))))))
theorem ax_fi_o (post : Int32 → Prop) {g a o c m k : Nat} (hg : g < 21) (ha : a < 201) (h1 : fa g = nI a) (h2 : sl (a * 7 + 6) = vb_pk 4 (nI o)) (ho : o < 200) (h3 : oc o = nI c) (hc : c < 6) (h4 : cf c = nI m) (hm : k < m) (hm4 : m ≤ 4) (hp : post (nI (o * 4 + k))) : wpX_fieldIndex post (nc, nt, ns, mn, n, na, nI g, ws, vs, en, rs, pc, tc, dc, cp, cf, mt, op, tk, tp, fp, sk, oc, of, bt, ba, rd, sl, ac, af, fa, fw, fv, wt, wd, wv, pr, mc) (nI k) := by
  unfold wpX_fieldIndex
  exact ax_slot (j := 6) _ hg h1 (And.intro (vp_in_nI (by omega) (by decide)) (nm_r (e' := vb_pk 4 (nI o)) (by rw [nI_clamp (by omega)]; exact h2) (ax_sort _ (vC_4 _) (br_t rfl (ax_num _ (And.intro (vp_in_nI ho (by decide)) (And.intro (by rw [nI_clamp (by omega), h3]; exact vp_in_nI hc (by decide)) (br_f (by rw [nI_clamp (n := o) (by omega), h3, nI_clamp (by omega), h4]; exact nI_ge hm (by omega)) (by rw [show (4 : Int32) = nI 4 from rfl, pk_mul, nI_add]; exact hp)))))))))
theorem ax_nIm1 {n : Nat} (h : n < 2 ^ 31) : ¬ nI n = -1 := fun e => nI_pos h (by rw [e]; decide)
theorem ax_field_s (post : SX → Prop) {g : Nat} {k : Int32} (h : ∀ Q : Int32 → Prop, Q (-1) → wpX_fieldIndex Q (nc, nt, ns, mn, n, na, nI g, ws, vs, en, rs, pc, tc, dc, cp, cf, mt, op, tk, tp, fp, sk, oc, of, bt, ba, rd, sl, ac, af, fa, fw, fv, wt, wd, wv, pr, mc) k) (hp : post (nc, nt, ns, mn, n, na, nI g, ws, vs, 1, rs, pc, tc, dc, cp, cf, mt, op, tk, tp, fp, sk, oc, of, bt, ba, rd, sl, ac, af, fa, fw, fv, wt, wd, wv, pr, mc)) : wpX_finishField post (nc, nt, ns, mn, n, na, nI g, ws, vs, en, rs, pc, tc, dc, cp, cf, mt, op, tk, tp, fp, sk, oc, of, bt, ba, rd, sl, ac, af, fa, fw, fv, wt, wd, wv, pr, mc) k := by
  unfold wpX_finishField
  exact h _ (br_t rfl hp)
theorem ax_field_o (post : SX → Prop) {g i q : Nat} {k : Int32} (h : ∀ Q : Int32 → Prop, Q (nI i) → wpX_fieldIndex Q (nc, nt, ns, mn, n, na, nI g, ws, nI q, en, rs, pc, tc, dc, cp, cf, mt, op, tk, tp, fp, sk, oc, of, bt, ba, rd, sl, ac, af, fa, fw, fv, wt, wd, wv, pr, mc) k) (hi : i < 800) (hq : q < 2100) (hp : post (nc, nt, ns, mn, n, na, nI g, ws, nI (q + 1), en, rs, pc, tc, dc, cp, cf, mt, op, tk, tp, fp, sk, oc, of, bt, ba, rd, sl, ac, af, fa, fw, fv, wt, wd, vp_updL wv q (of i), pr, mc)) : wpX_finishField post (nc, nt, ns, mn, n, na, nI g, ws, nI q, en, rs, pc, tc, dc, cp, cf, mt, op, tk, tp, fp, sk, oc, of, bt, ba, rd, sl, ac, af, fa, fw, fv, wt, wd, wv, pr, mc) k := by
  unfold wpX_finishField
  exact h _ (br_f (ax_nIm1 (by omega)) (And.intro (vp_in_nI hi (by decide)) (by rw [nI_clamp (by omega)]; exact ax_push _ hq hp)))
theorem ax_setf_s (post : SX → Prop) {g : Nat} {k : Int32} (h : ∀ Q : Int32 → Prop, Q (-1) → wpX_fieldIndex Q (nc, nt, ns, mn, n, na, nI g, ws, vs, en, rs, pc, tc, dc, cp, cf, mt, op, tk, tp, fp, sk, oc, of, bt, ba, rd, sl, ac, af, fa, fw, fv, wt, wd, wv, pr, mc) k) (hp : post (nc, nt, ns, mn, n, na, nI g, ws, vs, 1, rs, pc, tc, dc, cp, cf, mt, op, tk, tp, fp, sk, oc, of, bt, ba, rd, sl, ac, af, fa, fw, fv, wt, wd, wv, pr, mc)) : wpX_finishSetField post (nc, nt, ns, mn, n, na, nI g, ws, vs, en, rs, pc, tc, dc, cp, cf, mt, op, tk, tp, fp, sk, oc, of, bt, ba, rd, sl, ac, af, fa, fw, fv, wt, wd, wv, pr, mc) k := by
  unfold wpX_finishSetField
  exact h _ (br_t rfl hp)
theorem ax_setf_o (post : SX → Prop) {g i q : Nat} {k : Int32} (h : ∀ Q : Int32 → Prop, Q (nI i) → wpX_fieldIndex Q (nc, nt, ns, mn, n, na, nI g, ws, nI (q + 1), en, rs, pc, tc, dc, cp, cf, mt, op, tk, tp, fp, sk, oc, of, bt, ba, rd, sl, ac, af, fa, fw, fv, wt, wd, wv, pr, mc) k) (hi : i < 800) (hq : q < 2100) (hp : post (nc, nt, ns, mn, n, na, nI g, ws, nI (q + 1), en, rs, pc, tc, dc, cp, cf, mt, op, tk, tp, fp, sk, oc, vp_updL of i (wv q), bt, ba, rd, sl, ac, af, fa, fw, fv, wt, wd, wv, pr, mc)) : wpX_finishSetField post (nc, nt, ns, mn, n, na, nI g, ws, nI (q + 1), en, rs, pc, tc, dc, cp, cf, mt, op, tk, tp, fp, sk, oc, of, bt, ba, rd, sl, ac, af, fa, fw, fv, wt, wd, wv, pr, mc) k := by
  unfold wpX_finishSetField
  exact h _ (br_f (ax_nIm1 (by omega)) (And.intro (by rw [nI_pred]; exact vp_in_nI hq (by decide)) (And.intro (vp_in_nI hi (by decide)) (nm_r (by rw [nI_clamp (n := i) (by omega), nI_pred, nI_clamp (by omega)]) hp))))
theorem ax_set (post : SX → Prop) {g a j q : Nat} (hg : g < 21) (ha : a < 201) (hj : j < 7) (hq : q < 2100) (h1 : fa g = nI a) (hp : post (nc, nt, ns, mn, n, na, nI g, ws, nI (q + 1), en, rs, pc, tc, dc, cp, cf, mt, op, tk, tp, fp, sk, oc, of, bt, ba, rd, vp_updL sl (a * 7 + j) (wv q), ac, af, fa, fw, fv, wt, wd, wv, pr, mc)) : wpX_finishSet post (nc, nt, ns, mn, n, na, nI g, ws, nI (q + 1), en, rs, pc, tc, dc, cp, cf, mt, op, tk, tp, fp, sk, oc, of, bt, ba, rd, sl, ac, af, fa, fw, fv, wt, wd, wv, pr, mc) (nI j) := by
  unfold wpX_finishSet
  exact ax_slot _ hg h1 (And.intro (by rw [nI_pred]; exact vp_in_nI hq (by decide)) (And.intro (vp_in_nI (by omega) (by decide)) (nm_r (by rw [nI_clamp (n := a * 7 + j) (by omega), nI_pred, nI_clamp (by omega)]) hp)))
theorem ax_new_n (post : SX → Prop) {k : Int32} (hp : post (nc, nt, ns, mn, n, na, f, ws, vs, 2, rs, pc, nI 200, dc, cp, cf, mt, op, tk, tp, fp, sk, oc, of, bt, ba, rd, sl, ac, af, fa, fw, fv, wt, wd, wv, pr, mc)) : wpX_finishNew post (nc, nt, ns, mn, n, na, f, ws, vs, en, rs, pc, nI 200, dc, cp, cf, mt, op, tk, tp, fp, sk, oc, of, bt, ba, rd, sl, ac, af, fa, fw, fv, wt, wd, wv, pr, mc) k := by
  unfold wpX_finishNew
  exact ax_turn_n _ (br_t rfl hp)
theorem ax_ix4 {t d : Nat} : nI t * 4 + nI d = nI (t * 4 + d) := by
  rw [show (4 : Int32) = nI 4 from rfl, pk_mul, nI_add]
def ax_of4 (of : Nat → Int64) (t : Nat) : Nat → Int64 := up_n of (t * 4) (fun _ => vb_pk 1 0) 4
theorem ax_new_f (post : SX → Prop) {q t c r : Nat} (hq : q < 2100) (ht : t < 200) (hc : c < 6) (hr : r < 200) (hp : post (nc, nt, ns, mn, nI (t + 1), na, f, ws, nI (q + 1), en, rs, pc, nI (r + 1), dc, cp, cf, mt, op, tk, tp, fp, sk, upd oc t (nI c), ax_of4 of t, bt, ba, rd, sl, ac, af, fa, fw, fv, wt, wd, vp_updL wv q (vb_pk 4 (nI t)), pr, upd mc c (mc c + 1))) : wpX_finishNew post (nc, nt, ns, mn, nI t, na, f, ws, nI q, en, rs, pc, nI r, dc, cp, cf, mt, op, tk, tp, fp, sk, oc, of, bt, ba, rd, sl, ac, af, fa, fw, fv, wt, wd, wv, pr, mc) (nI c) := by
  unfold wpX_finishNew
  refine ax_turn_f _ hr (br_f (by decide) (nm_r (nI_1 t) (And.intro (vp_in_nI ht (by decide)) (nm_r (e' := upd oc t (nI c)) (by rw [nI_clamp (by omega)]) (Exists.intro 5 ?_)))))
  have st : ∀ d, d < 4 → vp_in (nI t * 4 + nI d) 800 ∧ (nI t * 4 + nI d).toNatClampNeg = t * 4 + d := fun d hd => by
    rw [ax_ix4]
    exact ⟨vp_in_nI (by omega) (by decide), nI_clamp (by omega)⟩
  refine br_f (by decide) (And.intro (st 0 (by omega)).1 (nm_r (by rw [vb_nil, show (0 : Int32) = nI 0 from rfl, (st 0 (by omega)).2]) (nm_r (e' := nI 1) rfl ?_)))
  refine br_f (by decide) (And.intro (st 1 (by omega)).1 (nm_r (by rw [vb_nil, (st 1 (by omega)).2]) (nm_r (e' := nI 2) rfl ?_)))
  refine br_f (by decide) (And.intro (st 2 (by omega)).1 (nm_r (by rw [vb_nil, (st 2 (by omega)).2]) (nm_r (e' := nI 3) rfl ?_)))
  refine br_f (by decide) (And.intro (st 3 (by omega)).1 (nm_r (by rw [vb_nil, (st 3 (by omega)).2]) (nm_r (e' := nI 4) rfl ?_)))
  exact br_t (by decide) (And.intro (vp_in_nI hc (by decide)) (And.intro (vp_in_nI hc (by decide)) (nm_r (by rw [nI_clamp (by omega)]) (ax_push _ hq hp))))
theorem ax_block_n (post : SX → Prop) {k : Int32} (hp : post (nc, nt, ns, mn, n, na, f, ws, vs, 2, rs, pc, nI 200, dc, cp, cf, mt, op, tk, tp, fp, sk, oc, of, bt, ba, rd, sl, ac, af, fa, fw, fv, wt, wd, wv, pr, mc)) : wpX_finishBlock post (nc, nt, ns, mn, n, na, f, ws, vs, en, rs, pc, nI 200, dc, cp, cf, mt, op, tk, tp, fp, sk, oc, of, bt, ba, rd, sl, ac, af, fa, fw, fv, wt, wd, wv, pr, mc) k := by
  unfold wpX_finishBlock
  exact ax_turn_n _ (br_t rfl hp)
theorem ax_block_f (post : SX → Prop) {q t g a r : Nat} {k : Int32} (hq : q < 2100) (ht : t < 200) (hg : g < 21) (h1 : fa g = nI a) (hr : r < 200) (hp : post (nc, nt, ns, mn, nI (t + 1), na, nI g, ws, nI (q + 1), en, rs, pc, nI (r + 1), dc, cp, cf, mt, op, tk, tp, fp, sk, oc, of, upd bt t k, upd ba t (nI a), rd, sl, ac, af, fa, fw, fv, wt, wd, vp_updL wv q (vb_pk 3 (nI t)), pr, mc)) : wpX_finishBlock post (nc, nt, ns, mn, nI t, na, nI g, ws, nI q, en, rs, pc, nI r, dc, cp, cf, mt, op, tk, tp, fp, sk, oc, of, bt, ba, rd, sl, ac, af, fa, fw, fv, wt, wd, wv, pr, mc) k := by
  unfold wpX_finishBlock
  exact ax_turn_f _ hr (br_f (by decide) (nm_r (nI_1 t) (And.intro (vp_in_nI ht (by decide)) (nm_r (by rw [nI_clamp (by omega)]) (And.intro (vp_in_nI hg (by decide)) (And.intro (vp_in_nI ht (by decide)) (nm_r (by rw [nI_clamp (n := t) (by omega), nI_clamp (by omega), h1]) (ax_push _ hq hp))))))))
theorem ax_print_s (post : SX → Prop) {q : Nat} (hq : q < 2100) (h1 : ¬ vb_T (wv q) = 2) (hp : post (nc, nt, ns, mn, n, na, f, ws, nI (q + 1), 1, rs, pc, tc, dc, cp, cf, mt, op, tk, tp, fp, sk, oc, of, bt, ba, rd, sl, ac, af, fa, fw, fv, wt, wd, wv, pr, mc)) : wpX_finishPrint post (nc, nt, ns, mn, n, na, f, ws, nI (q + 1), en, rs, pc, tc, dc, cp, cf, mt, op, tk, tp, fp, sk, oc, of, bt, ba, rd, sl, ac, af, fa, fw, fv, wt, wd, wv, pr, mc) :=
  And.intro (by rw [nI_pred]; exact vp_in_nI hq (by decide)) (nm_r (e' := wv q) (by rw [nI_pred, nI_clamp (by omega)]) (br_f h1 hp))
theorem ax_print_n (post : SX → Prop) {q : Nat} (hq : q < 2100) (h1 : vb_T (wv q) = 2) (hp : post (nc, nt, ns, mn, n, na, f, ws, nI (q + 1), 4, rs, nI 20, tc, dc, cp, cf, mt, op, tk, tp, fp, sk, oc, of, bt, ba, rd, sl, ac, af, fa, fw, fv, wt, wd, wv, pr, mc)) : wpX_finishPrint post (nc, nt, ns, mn, n, na, f, ws, nI (q + 1), en, rs, nI 20, tc, dc, cp, cf, mt, op, tk, tp, fp, sk, oc, of, bt, ba, rd, sl, ac, af, fa, fw, fv, wt, wd, wv, pr, mc) :=
  And.intro (by rw [nI_pred]; exact vp_in_nI hq (by decide)) (nm_r (e' := wv q) (by rw [nI_pred, nI_clamp (by omega)]) (br_t h1 (br_f (by decide) hp)))
theorem ax_print_f (post : SX → Prop) {q r : Nat} (hq : q < 2100) (hr : r < 20) (h1 : vb_T (wv q) = 2) (hp : post (nc, nt, ns, mn, n, na, f, ws, nI (q + 1), en, rs, nI (r + 1), tc, dc, cp, cf, mt, op, tk, tp, fp, sk, oc, of, bt, ba, rd, sl, ac, af, fa, fw, fv, wt, wd, wv, upd pr r (wv q).toInt32, mc)) : wpX_finishPrint post (nc, nt, ns, mn, n, na, f, ws, nI (q + 1), en, rs, nI r, tc, dc, cp, cf, mt, op, tk, tp, fp, sk, oc, of, bt, ba, rd, sl, ac, af, fa, fw, fv, wt, wd, wv, pr, mc) :=
  And.intro (by rw [nI_pred]; exact vp_in_nI hq (by decide)) (nm_r (e' := wv q) (by rw [nI_pred, nI_clamp (by omega)]) (br_t h1 (br_t (nI_lt (b := 20) hr (by decide)) (And.intro (vp_in_nI hr (by decide)) (nm_r (by rw [nI_clamp (by omega)]) (nm_r (nI_1 r) hp))))))
theorem ax_same (post : SX → Prop) {q : Nat} {i : Int32} (hq : q + 1 < 2100) (h1 : (wv q = wv (q + 1) ∧ i = 1) ∨ (¬ wv q = wv (q + 1) ∧ i = 0)) (hp : post (nc, nt, ns, mn, n, na, f, ws, nI (q + 1), en, rs, pc, tc, dc, cp, cf, mt, op, tk, tp, fp, sk, oc, of, bt, ba, rd, sl, ac, af, fa, fw, fv, wt, wd, vp_updL wv q (vb_pk 2 i), pr, mc)) : wpX_finishSame post (nc, nt, ns, mn, n, na, f, ws, nI (q + 2), en, rs, pc, tc, dc, cp, cf, mt, op, tk, tp, fp, sk, oc, of, bt, ba, rd, sl, ac, af, fa, fw, fv, wt, wd, wv, pr, mc) := by
  unfold wpX_finishSame
  exact ax_pop (q := q + 1) _ hq (ax_pop _ (by omega) (by
    rcases h1 with ⟨h1, rfl⟩ | ⟨h1, rfl⟩
    · exact br_t h1 (ax_pushInt _ (by omega) hp)
    · exact br_f h1 (ax_pushInt _ (by omega) hp)))
theorem ax_then (post : SX → Prop) {q : Nat} (hq : q + 1 < 2100) (hp : post (nc, nt, ns, mn, n, na, f, ws, nI (q + 1), en, rs, pc, tc, dc, cp, cf, mt, op, tk, tp, fp, sk, oc, of, bt, ba, rd, sl, ac, af, fa, fw, fv, wt, wd, vp_updL wv q (wv (q + 1)), pr, mc)) : wpX_finishThen post (nc, nt, ns, mn, n, na, f, ws, nI (q + 2), en, rs, pc, tc, dc, cp, cf, mt, op, tk, tp, fp, sk, oc, of, bt, ba, rd, sl, ac, af, fa, fw, fv, wt, wd, wv, pr, mc) := by
  unfold wpX_finishThen
  exact ax_pop (q := q + 1) _ hq (And.intro (by rw [nI_pred]; exact vp_in_nI (by omega) (by decide)) (nm_r (by rw [nI_pred, nI_clamp (by omega)]) hp))
theorem ax_choose_s (post : SX → Prop) {q : Nat} {t : Int32} (hq : q < 2100) (h1 : ¬ vb_T (wv q) = 2) (hp : post (nc, nt, ns, mn, n, na, f, ws, nI q, 1, rs, pc, tc, dc, cp, cf, mt, op, tk, tp, fp, sk, oc, of, bt, ba, rd, sl, ac, af, fa, fw, fv, wt, wd, wv, pr, mc)) : wpX_finishChoose post (nc, nt, ns, mn, n, na, f, ws, nI (q + 1), en, rs, pc, tc, dc, cp, cf, mt, op, tk, tp, fp, sk, oc, of, bt, ba, rd, sl, ac, af, fa, fw, fv, wt, wd, wv, pr, mc) t := by
  unfold wpX_finishChoose
  exact ax_pop _ hq (br_f h1 hp)
theorem ax_choose_f (post : SX → Prop) {q t w d p : Nat} (hq : q < 2100) (hw : w < 2100) (ht : t < 100) (hd : ((wv q).toInt32 = 0 ∧ d = 2) ∨ (¬ (wv q).toInt32 = 0 ∧ d = 1)) (h1 : vb_T (wv q) = 2) (h2 : tp (3 * t + d) = nI p) (hp : post (nc, nt, ns, mn, n, na, f, nI (w + 1), nI q, en, rs, pc, tc, dc, cp, cf, mt, op, tk, tp, fp, sk, oc, of, bt, ba, rd, sl, ac, af, fa, fw, fv, upd wt w (nI p), upd wd w 0, wv, pr, mc)) : wpX_finishChoose post (nc, nt, ns, mn, n, na, f, nI w, nI (q + 1), en, rs, pc, tc, dc, cp, cf, mt, op, tk, tp, fp, sk, oc, of, bt, ba, rd, sl, ac, af, fa, fw, fv, wt, wd, wv, pr, mc) (nI t) := by
  unfold wpX_finishChoose
  exact ax_pop _ hq (br_t h1 (by
    rcases hd with ⟨hd, rfl⟩ | ⟨hd, rfl⟩
    · exact br_t hd (And.intro (by rw [show (2 : Int32) = nI 2 from rfl, ax_ix3]; exact vp_in_nI (by omega) (by decide)) (by rw [show (2 : Int32) = nI 2 from rfl, ax_ix3, nI_clamp (by omega), h2]; exact ax_begin _ hw hp))
    · exact br_f hd (And.intro (by rw [show (1 : Int32) = nI 1 from rfl, ax_ix3]; exact vp_in_nI (by omega) (by decide)) (by rw [show (1 : Int32) = nI 1 from rfl, ax_ix3, nI_clamp (by omega), h2]; exact ax_begin _ hw hp))))
end
end
section
section
variable {yc yt ys ym no nb ya yw yv yu yo yk yp ye : Int32} {ycp ycf ymt kd ytk ytp ysk yoc ybt ybp ow ed wa yh ypr mo mb : Nat → Int32} {yof sv vr vl : Nat → Int64}
theorem ay_n1 : vp_nar .boolean 1 = 1 := rfl
theorem ay_n0 : vp_nar .boolean 0 = 0 := rfl
theorem ay_dec {a t s : Nat} (ha : a < 1000) (ht : t < 128) (hs : s < 8) : nI (1024 * a + 8 * t + s) - nI (1024 * a + 8 * t + s) / 8 * 8 = nI s ∧ nI (1024 * a + 8 * t + s) / 8 - nI (1024 * a + 8 * t + s) / 8 / 128 * 128 = nI t ∧ nI (1024 * a + 8 * t + s) / 1024 = nI a := by
  rw [show (8 : Int32) = nI 8 from rfl, show (128 : Int32) = nI 128 from rfl, show (1024 : Int32) = nI 1024 from rfl, pk_rem (by omega) (by omega) (by omega), pk_div (by omega) (by omega) (by omega), pk_rem (by omega) (by omega) (by omega), pk_div (by omega) (by omega) (by omega)]
  exact ⟨congrArg nI (by omega), congrArg nI (by omega), congrArg nI (by omega)⟩
theorem ay_hold (post : SY → Prop) {q : Nat} {x : Int64} (h : q < 2200) (hp : post (yc, yt, ys, ym, no, nb, ya, yw, nI (q + 1), yu, yo, yk, yp, ye, ycp, ycf, ymt, kd, ytk, ytp, ysk, yoc, yof, ybt, ybp, sv, vr, ow, ed, wa, yh, vp_updL vl q x, ypr, mo, mb)) : wpY_hold post (yc, yt, ys, ym, no, nb, ya, yw, nI q, yu, yo, yk, yp, ye, ycp, ycf, ymt, kd, ytk, ytp, ysk, yoc, yof, ybt, ybp, sv, vr, ow, ed, wa, yh, vl, ypr, mo, mb) x :=
  And.intro (vp_in_nI h (by decide)) (nm_r (by rw [nI_clamp (by omega)]) (nm_r (nI_1 q) hp))
theorem ay_wait (post : SY → Prop) {q a t s : Nat} (h : q < 2200) (hp : post (yc, yt, ys, ym, no, nb, ya, nI (q + 1), yv, yu, yo, yk, yp, ye, ycp, ycf, ymt, kd, ytk, ytp, ysk, yoc, yof, ybt, ybp, sv, vr, ow, ed, upd wa q (nI (1024 * a + 8 * t + s)), upd yh q yv, vl, ypr, mo, mb)) : wpY_wait post (yc, yt, ys, ym, no, nb, ya, nI q, yv, yu, yo, yk, yp, ye, ycp, ycf, ymt, kd, ytk, ytp, ysk, yoc, yof, ybt, ybp, sv, vr, ow, ed, wa, yh, vl, ypr, mo, mb) (nI t) (nI s) (nI a) :=
  And.intro (vp_in_nI h (by decide)) (nm_r (by rw [nI_clamp (by omega), show (1024 : Int32) = nI 1024 from rfl, show (8 : Int32) = nI 8 from rfl, pk_mul, pk_mul, nI_add, nI_add]) (And.intro (vp_in_nI h (by decide)) (nm_r (by rw [nI_clamp (by omega)]) (nm_r (nI_1 q) hp))))
theorem ay_turn_f (post : Int32 → SY → Prop) {q : Nat} (h : q < 200) (hp : post 1 (yc, yt, ys, ym, no, nb, ya, yw, yv, yu, yo, nI (q + 1), yp, ye, ycp, ycf, ymt, kd, ytk, ytp, ysk, yoc, yof, ybt, ybp, sv, vr, ow, ed, wa, yh, vl, ypr, mo, mb)) : wpY_takeTurn post (yc, yt, ys, ym, no, nb, ya, yw, yv, yu, yo, nI q, yp, ye, ycp, ycf, ymt, kd, ytk, ytp, ysk, yoc, yof, ybt, ybp, sv, vr, ow, ed, wa, yh, vl, ypr, mo, mb) :=
  br_f (fun e => by rw [show (200 : Int32) = nI 200 from rfl, nI_eq (by omega) (by omega)] at e; omega) (nm_r (nI_1 q) hp)
theorem ay_turn_n (post : Int32 → SY → Prop) (hp : post 0 (yc, yt, ys, ym, no, nb, ya, yw, yv, yu, yo, nI 200, yp, 2, ycp, ycf, ymt, kd, ytk, ytp, ysk, yoc, yof, ybt, ybp, sv, vr, ow, ed, wa, yh, vl, ypr, mo, mb)) : wpY_takeTurn post (yc, yt, ys, ym, no, nb, ya, yw, yv, yu, yo, nI 200, yp, ye, ycp, ycf, ymt, kd, ytk, ytp, ysk, yoc, yof, ybt, ybp, sv, vr, ow, ed, wa, yh, vl, ypr, mo, mb) :=
  br_t (by decide) hp
def ay_mx (g d : Nat) : Nat := if g + 1 ≤ d then d else g + 1
theorem ay_enter_n (post : SY → Prop) {m t a : Int32} (hp : post (yc, yt, ys, ym, no, nb, ya, yw, yv, nI 20, yo, yk, yp, 3, ycp, ycf, ymt, kd, ytk, ytp, ysk, yoc, yof, ybt, ybp, sv, vr, ow, ed, wa, yh, vl, ypr, mo, mb)) : wpY_enter post (yc, yt, ys, ym, no, nb, ya, yw, yv, nI 20, yo, yk, yp, ye, ycp, ycf, ymt, kd, ytk, ytp, ysk, yoc, yof, ybt, ybp, sv, vr, ow, ed, wa, yh, vl, ypr, mo, mb) m t a :=
  br_t (by decide) hp
theorem ay_enter_f (post : SY → Prop) {q g d m t a : Nat} (hq : q + 1 < 2200) (hg : g < 20) (hd : d < 1000) (hp : post (yc, yt, ys, ym, no, nb, ya, nI (q + 2), yv, nI (g + 1), nI (ay_mx g d), yk, yp, ye, ycp, ycf, ymt, kd, ytk, ytp, ysk, yoc, yof, ybt, ybp, sv, vr, ow, ed, upd (upd wa q (nI (1024 * a + 8 * m + 0))) (q + 1) (nI (1024 * a + 8 * t + 0)), upd (upd yh q yv) (q + 1) yv, vl, ypr, mo, mb)) : wpY_enter post (yc, yt, ys, ym, no, nb, ya, nI q, yv, nI g, nI d, yk, yp, ye, ycp, ycf, ymt, kd, ytk, ytp, ysk, yoc, yof, ybt, ybp, sv, vr, ow, ed, wa, yh, vl, ypr, mo, mb) (nI m) (nI t) (nI a) := by
  refine br_f (fun e => by rw [show (20 : Int32) = nI 20 from rfl, nI_eq (by omega) (by omega)] at e; omega) (nm_r (nI_1 g) ?_)
  by_cases z : g + 1 ≤ d
  · rw [show ay_mx g d = d from if_pos z] at hp
    exact br_t (nI_le z (by omega)) (ay_wait (s := 0) _ (by omega) (ay_wait (s := 0) _ hq hp))
  · rw [show ay_mx g d = g + 1 from if_neg z] at hp
    exact br_f (nI_ge (by omega) (by omega)) (ay_wait (s := 0) _ (by omega) (ay_wait (s := 0) _ hq hp))
theorem ay_num (post : Int32 → Prop) {u : SY} {s i : Int32} (h : post i) : wpY_number post u (vb_pk s i) := by
  unfold wpY_number
  dsimp only
  rw [vb_n]
  exact h
theorem ay_type (post : Int32 → Prop) {u : SY} {x : Int64} {s : Int32} (h0 : vb_T x = s) (h : post s) : wpY_type post u x := by
  subst h0
  exact h
theorem ay_thing (post : Int64 → Prop) {u : SY} {s i : Int32} (h : post (vb_pk s i)) : wpY_thing post u s i := h
theorem ay_step_E (post : SY → Prop) {q a t : Nat} (hq : q < 2200) (ha : a < 1000) (ht : t < 100) (h1 : wa q = nI (1024 * a + 8 * t + 0)) (hp : wpY_begin post (yc, yt, ys, ym, no, nb, ya, nI q, yv, yu, yo, yk, yp, ye, ycp, ycf, ymt, kd, ytk, ytp, ysk, yoc, yof, ybt, ybp, sv, vr, ow, ed, wa, yh, vl, ypr, mo, mb) (nI t) (nI a)) : wpY_step post (yc, yt, ys, ym, no, nb, ya, nI (q + 1), yv, yu, yo, yk, yp, ye, ycp, ycf, ymt, kd, ytk, ytp, ysk, yoc, yof, ybt, ybp, sv, vr, ow, ed, wa, yh, vl, ypr, mo, mb) := by
  have D := ay_dec ha (show t < 128 by omega) (show 0 < 8 by omega)
  exact nm_r (nI_pred q) (And.intro (vp_in_nI hq (by decide)) (And.intro (by decide) (nm_r (e' := nI 0) (by rw [nI_clamp (by omega), h1]; exact D.1) (And.intro (vp_in_nI hq (by decide)) (And.intro (by decide) (And.intro (by decide) (nm_r (e' := nI t) (by rw [nI_clamp (by omega), h1]; exact D.2.1) (And.intro (vp_in_nI hq (by decide)) (And.intro (by decide) (nm_r (e' := nI a) (by rw [nI_clamp (by omega), h1]; exact D.2.2) (br_t (nI_le (b := 125) (by omega) (by decide)) (br_t rfl hp))))))))))))
theorem ay_step_1 (post : SY → Prop) {q a t s k : Nat} (hq : q < 2200) (ha : a < 1000) (ht : t < 100) (hs : s < 8) (h0 : 1 ≤ s) (h1 : wa q = nI (1024 * a + 8 * t + s)) (h2 : kd t = nI k) (hk : k < 20) (hp : wpY_finishOne post (yc, yt, ys, ym, no, nb, ya, nI q, yv, yu, yo, yk, yp, ye, ycp, ycf, ymt, kd, ytk, ytp, ysk, yoc, yof, ybt, ybp, sv, vr, ow, ed, wa, yh, vl, ypr, mo, mb) (nI t) (nI a)) : wpY_step post (yc, yt, ys, ym, no, nb, ya, nI (q + 1), yv, yu, yo, yk, yp, ye, ycp, ycf, ymt, kd, ytk, ytp, ysk, yoc, yof, ybt, ybp, sv, vr, ow, ed, wa, yh, vl, ypr, mo, mb) := by
  have D := ay_dec ha (show t < 128 by omega) hs
  exact nm_r (nI_pred q) (And.intro (vp_in_nI hq (by decide)) (And.intro (by decide) (nm_r (e' := nI s) (by rw [nI_clamp (by omega), h1]; exact D.1) (And.intro (vp_in_nI hq (by decide)) (And.intro (by decide) (And.intro (by decide) (nm_r (e' := nI t) (by rw [nI_clamp (by omega), h1]; exact D.2.1) (And.intro (vp_in_nI hq (by decide)) (And.intro (by decide) (nm_r (e' := nI a) (by rw [nI_clamp (by omega), h1]; exact D.2.2) (br_t (nI_le (b := 125) (by omega) (by decide)) (br_f (nI_ne0 (by omega) (by omega)) (And.intro (vp_in_nI ht (by decide)) (br_f (by rw [nI_clamp (by omega), h2]; exact nI_ge (b := 20) hk (by decide)) hp))))))))))))))
theorem ay_step_2 (post : SY → Prop) {q a t s k : Nat} (hq : q < 2200) (ha : a < 1000) (ht : t < 100) (hs : s < 8) (h0 : 1 ≤ s) (h1 : wa q = nI (1024 * a + 8 * t + s)) (h2 : kd t = nI k) (hk : 20 ≤ k) (hk3 : k < 30) (hp : wpY_goOnTwo post (yc, yt, ys, ym, no, nb, ya, nI q, yv, yu, yo, yk, yp, ye, ycp, ycf, ymt, kd, ytk, ytp, ysk, yoc, yof, ybt, ybp, sv, vr, ow, ed, wa, yh, vl, ypr, mo, mb) (nI t) (nI s) (nI a)) : wpY_step post (yc, yt, ys, ym, no, nb, ya, nI (q + 1), yv, yu, yo, yk, yp, ye, ycp, ycf, ymt, kd, ytk, ytp, ysk, yoc, yof, ybt, ybp, sv, vr, ow, ed, wa, yh, vl, ypr, mo, mb) := by
  have D := ay_dec ha (show t < 128 by omega) hs
  exact nm_r (nI_pred q) (And.intro (vp_in_nI hq (by decide)) (And.intro (by decide) (nm_r (e' := nI s) (by rw [nI_clamp (by omega), h1]; exact D.1) (And.intro (vp_in_nI hq (by decide)) (And.intro (by decide) (And.intro (by decide) (nm_r (e' := nI t) (by rw [nI_clamp (by omega), h1]; exact D.2.1) (And.intro (vp_in_nI hq (by decide)) (And.intro (by decide) (nm_r (e' := nI a) (by rw [nI_clamp (by omega), h1]; exact D.2.2) (br_t (nI_le (b := 125) (by omega) (by decide)) (br_f (nI_ne0 (by omega) (by omega)) (And.intro (vp_in_nI ht (by decide)) (br_t (by rw [nI_clamp (by omega), h2]; exact nI_le (a := 20) hk (by omega)) (And.intro (vp_in_nI ht (by decide)) (br_f (by rw [nI_clamp (by omega), h2]; exact nI_ge (b := 30) hk3 (by decide)) hp))))))))))))))))
theorem ay_step_3 (post : SY → Prop) {q a t s k : Nat} (hq : q < 2200) (ha : a < 1000) (ht : t < 100) (hs : s < 8) (h0 : 1 ≤ s) (h1 : wa q = nI (1024 * a + 8 * t + s)) (h2 : kd t = nI k) (hk : 30 ≤ k) (hk3 : k < 40) (hp : wpY_goOnThree post (yc, yt, ys, ym, no, nb, ya, nI q, yv, yu, yo, yk, yp, ye, ycp, ycf, ymt, kd, ytk, ytp, ysk, yoc, yof, ybt, ybp, sv, vr, ow, ed, wa, yh, vl, ypr, mo, mb) (nI t) (nI s) (nI a)) : wpY_step post (yc, yt, ys, ym, no, nb, ya, nI (q + 1), yv, yu, yo, yk, yp, ye, ycp, ycf, ymt, kd, ytk, ytp, ysk, yoc, yof, ybt, ybp, sv, vr, ow, ed, wa, yh, vl, ypr, mo, mb) := by
  have D := ay_dec ha (show t < 128 by omega) hs
  exact nm_r (nI_pred q) (And.intro (vp_in_nI hq (by decide)) (And.intro (by decide) (nm_r (e' := nI s) (by rw [nI_clamp (by omega), h1]; exact D.1) (And.intro (vp_in_nI hq (by decide)) (And.intro (by decide) (And.intro (by decide) (nm_r (e' := nI t) (by rw [nI_clamp (by omega), h1]; exact D.2.1) (And.intro (vp_in_nI hq (by decide)) (And.intro (by decide) (nm_r (e' := nI a) (by rw [nI_clamp (by omega), h1]; exact D.2.2) (br_t (nI_le (b := 125) (by omega) (by decide)) (br_f (nI_ne0 (by omega) (by omega)) (And.intro (vp_in_nI ht (by decide)) (br_t (by rw [nI_clamp (by omega), h2]; exact nI_le (a := 20) (by omega) (by omega)) (And.intro (vp_in_nI ht (by decide)) (br_t (by rw [nI_clamp (by omega), h2]; exact nI_le (a := 30) hk (by omega)) hp))))))))))))))))
theorem ay_step_M (post : SY → Prop) {q a m g : Nat} {x : Int32} (hq : q < 2200) (ha : a < 202) (hm : m ≤ 1) (h1 : wa q = nI (1024 * a + 8 * (126 + m) + 0)) (hx : (m = 1 ∧ x = 1) ∨ (m = 0 ∧ x = ed a)) (h01 : ed a = 0 ∨ ed a = 1) (hp : post (yc, yt, ys, ym, no, nb, ya, nI q, yv, nI g, yo, yk, yp, ye, ycp, ycf, ymt, kd, ytk, ytp, ysk, yoc, yof, ybt, ybp, sv, vr, ow, upd ed a x, wa, yh, vl, ypr, mo, mb)) : wpY_step post (yc, yt, ys, ym, no, nb, ya, nI (q + 1), yv, nI (g + 1), yo, yk, yp, ye, ycp, ycf, ymt, kd, ytk, ytp, ysk, yoc, yof, ybt, ybp, sv, vr, ow, ed, wa, yh, vl, ypr, mo, mb) := by
  have D := ay_dec (show a < 1000 by omega) (show 126 + m < 128 by omega) (show 0 < 8 by omega)
  refine nm_r (nI_pred q) (And.intro (vp_in_nI hq (by decide)) (And.intro (by decide) (nm_r (e' := nI 0) (by rw [nI_clamp (by omega), h1]; exact D.1) (And.intro (vp_in_nI hq (by decide)) (And.intro (by decide) (And.intro (by decide) (nm_r (e' := nI (126 + m)) (by rw [nI_clamp (by omega), h1]; exact D.2.1) (And.intro (vp_in_nI hq (by decide)) (And.intro (by decide) (nm_r (e' := nI a) (by rw [nI_clamp (by omega), h1]; exact D.2.2) (br_f (nI_ge (a := 125) (by omega) (by omega)) (nm_r (nI_pred g) (And.intro (vp_in_nI ha (by decide)) ?_)))))))))))))
  rcases h01 with z | z
  · refine br_t (by rw [nI_clamp (by omega)]; exact z) ?_
    rcases hx with ⟨rfl, rfl⟩ | ⟨rfl, rfl⟩
    · exact br_t rfl (And.intro (vp_in_nI ha (by decide)) (nm_r (by rw [nI_clamp (by omega), ay_n1]) hp))
    · exact br_f (by decide) (And.intro (vp_in_nI ha (by decide)) (nm_r (by rw [nI_clamp (by omega), ay_n0, z]) hp))
  · refine br_f (by rw [nI_clamp (by omega), z]; decide) (And.intro (vp_in_nI ha (by decide)) (nm_r ?_ hp))
    rw [nI_clamp (by omega), ay_n1]
    rcases hx with ⟨rfl, rfl⟩ | ⟨rfl, rfl⟩
    · rfl
    · rw [z]
end
end
section
section
variable {yc yt ys ym no nb ya yw yv yu yo yk yp ye : Int32} {ycp ycf ymt kd ytk ytp ysk yoc ybt ybp ow ed wa yh ypr mo mb : Nat → Int32} {yof sv vr vl : Nat → Int64}
theorem ay_bg_0 (post : SY → Prop) {t q : Nat} {a : Int32} (ht : t < 100) (h2 : kd t = 0) (hq : q < 2200) (hp : post (yc, yt, ys, ym, no, nb, ya, yw, nI (q + 1), yu, yo, yk, yp, ye, ycp, ycf, ymt, kd, ytk, ytp, ysk, yoc, yof, ybt, ybp, sv, vr, ow, ed, wa, yh, vp_updL vl q (vb_pk 2 (ytk t)), ypr, mo, mb)) : wpY_begin post (yc, yt, ys, ym, no, nb, ya, yw, nI q, yu, yo, yk, yp, ye, ycp, ycf, ymt, kd, ytk, ytp, ysk, yoc, yof, ybt, ybp, sv, vr, ow, ed, wa, yh, vl, ypr, mo, mb) (nI t) a :=
  And.intro (vp_in_nI ht (by decide)) (nm_r (e' := 0) (by rw [nI_clamp (by omega)]; exact h2) (And.intro (vp_in_nI ht (by decide)) (nm_r (e' := ytk t) (by rw [nI_clamp (by omega)]) (br_f (by decide) (br_t rfl (ay_hold _ hq hp))))))
theorem ay_bg_1 (post : SY → Prop) {t q : Nat} {a : Int32} (ht : t < 100) (h2 : kd t = 1) (hq : q < 2200) (hp : post (yc, yt, ys, ym, no, nb, ya, yw, nI (q + 1), yu, yo, yk, yp, ye, ycp, ycf, ymt, kd, ytk, ytp, ysk, yoc, yof, ybt, ybp, sv, vr, ow, ed, wa, yh, vp_updL vl q (vb_pk 1 0), ypr, mo, mb)) : wpY_begin post (yc, yt, ys, ym, no, nb, ya, yw, nI q, yu, yo, yk, yp, ye, ycp, ycf, ymt, kd, ytk, ytp, ysk, yoc, yof, ybt, ybp, sv, vr, ow, ed, wa, yh, vl, ypr, mo, mb) (nI t) a :=
  And.intro (vp_in_nI ht (by decide)) (nm_r (e' := 1) (by rw [nI_clamp (by omega)]; exact h2) (And.intro (vp_in_nI ht (by decide)) (nm_r (e' := ytk t) (by rw [nI_clamp (by omega)]) (br_f (by decide) (br_f (by decide) (br_t rfl (ay_hold _ hq hp)))))))
theorem ay_bg_2 (post : SY → Prop) {t q a : Nat} (ht : t < 100) (h2 : kd t = 2) (hq : q < 2200) (ha : a < 202) (hp : post (yc, yt, ys, ym, no, nb, ya, yw, nI (q + 1), yu, yo, yk, yp, ye, ycp, ycf, ymt, kd, ytk, ytp, ysk, yoc, yof, ybt, ybp, sv, vr, ow, ed, wa, yh, vp_updL vl q (sv a), ypr, mo, mb)) : wpY_begin post (yc, yt, ys, ym, no, nb, ya, yw, nI q, yu, yo, yk, yp, ye, ycp, ycf, ymt, kd, ytk, ytp, ysk, yoc, yof, ybt, ybp, sv, vr, ow, ed, wa, yh, vl, ypr, mo, mb) (nI t) (nI a) :=
  And.intro (vp_in_nI ht (by decide)) (nm_r (e' := 2) (by rw [nI_clamp (by omega)]; exact h2) (And.intro (vp_in_nI ht (by decide)) (nm_r (e' := ytk t) (by rw [nI_clamp (by omega)]) (br_f (by decide) (br_f (by decide) (br_f (by decide) (And.intro (vp_in_nI ha (by decide)) (by rw [nI_clamp (by omega)]; exact ay_hold _ hq hp))))))))
theorem ay_ix6 {a j : Nat} : 6 * nI a + nI j = nI (6 * a + j) := by
  rw [show (6 : Int32) = nI 6 from rfl, pk_mul, nI_add]
theorem ay_bg_3 (post : SY → Prop) {t q a j : Nat} (ht : t < 100) (h2 : kd t = 3) (hq : q < 2200) (ha : a < 202) (h3 : ytk t = nI j) (hj : j < 6) (hp : post (yc, yt, ys, ym, no, nb, ya, yw, nI (q + 1), yu, yo, yk, yp, ye, ycp, ycf, ymt, kd, ytk, ytp, ysk, yoc, yof, ybt, ybp, sv, vr, ow, ed, wa, yh, vp_updL vl q (vr (6 * a + j)), ypr, mo, mb)) : wpY_begin post (yc, yt, ys, ym, no, nb, ya, yw, nI q, yu, yo, yk, yp, ye, ycp, ycf, ymt, kd, ytk, ytp, ysk, yoc, yof, ybt, ybp, sv, vr, ow, ed, wa, yh, vl, ypr, mo, mb) (nI t) (nI a) :=
  And.intro (vp_in_nI ht (by decide)) (nm_r (e' := 3) (by rw [nI_clamp (by omega)]; exact h2) (And.intro (vp_in_nI ht (by decide)) (nm_r (e' := nI j) (by rw [nI_clamp (by omega)]; exact h3) (br_t (by decide) (br_t rfl (And.intro (by rw [ay_ix6]; exact vp_in_nI (by omega) (by decide)) (by rw [ay_ix6, nI_clamp (by omega)]; exact ay_hold _ hq hp)))))))
theorem ay_fp_n (post : Int32 → Prop) {a : Nat} {k : Int32} (ha : a < 202) (h2 : ¬ vb_T (sv a) = 4) (hp : post (-1)) : wpY_fieldPlace post (yc, yt, ys, ym, no, nb, ya, yw, yv, yu, yo, yk, yp, ye, ycp, ycf, ymt, kd, ytk, ytp, ysk, yoc, yof, ybt, ybp, sv, vr, ow, ed, wa, yh, vl, ypr, mo, mb) k (nI a) :=
  And.intro (vp_in_nI ha (by decide)) (nm_r (e' := sv a) (by rw [nI_clamp (by omega)]) (br_f h2 hp))
theorem ay_fp_s (post : Int32 → Prop) {a o c m k : Nat} (ha : a < 202) (h2 : sv a = vb_pk 4 (nI o)) (ho : o < 201) (h3 : yoc o = nI c) (hc : c < 6) (h4 : ycf c = nI m) (hm : m ≤ k) (hk : k < 4) (hp : post (-1)) : wpY_fieldPlace post (yc, yt, ys, ym, no, nb, ya, yw, yv, yu, yo, yk, yp, ye, ycp, ycf, ymt, kd, ytk, ytp, ysk, yoc, yof, ybt, ybp, sv, vr, ow, ed, wa, yh, vl, ypr, mo, mb) (nI k) (nI a) :=
  And.intro (vp_in_nI ha (by decide)) (nm_r (e' := vb_pk 4 (nI o)) (by rw [nI_clamp (by omega)]; exact h2) (ay_type _ (vC_4 _) (br_t rfl (ay_num _ (And.intro (vp_in_nI ho (by decide)) (And.intro (by rw [nI_clamp (by omega), h3]; exact vp_in_nI hc (by decide)) (br_t (by rw [nI_clamp (n := o) (by omega), h3, nI_clamp (by omega), h4]; exact nI_le hm (by omega)) hp)))))))
theorem ay_fp_o (post : Int32 → Prop) {a o c m k : Nat} (ha : a < 202) (h2 : sv a = vb_pk 4 (nI o)) (ho : o < 201) (h3 : yoc o = nI c) (hc : c < 6) (h4 : ycf c = nI m) (hm : k < m) (hm4 : m ≤ 4) (hp : post (nI (4 * o + k))) : wpY_fieldPlace post (yc, yt, ys, ym, no, nb, ya, yw, yv, yu, yo, yk, yp, ye, ycp, ycf, ymt, kd, ytk, ytp, ysk, yoc, yof, ybt, ybp, sv, vr, ow, ed, wa, yh, vl, ypr, mo, mb) (nI k) (nI a) :=
  And.intro (vp_in_nI ha (by decide)) (nm_r (e' := vb_pk 4 (nI o)) (by rw [nI_clamp (by omega)]; exact h2) (ay_type _ (vC_4 _) (br_t rfl (ay_num _ (And.intro (vp_in_nI ho (by decide)) (And.intro (by rw [nI_clamp (by omega), h3]; exact vp_in_nI hc (by decide)) (br_f (by rw [nI_clamp (n := o) (by omega), h3, nI_clamp (by omega), h4]; exact nI_ge hm (by omega)) (ay_num _ (by rw [show (4 : Int32) = nI 4 from rfl, pk_mul, nI_add]; exact hp)))))))))
theorem ay_bg_4s (post : SY → Prop) {t q : Nat} {a : Int32} (ht : t < 100) (h2 : kd t = 4) (hq : q < 2200) (h : ∀ Q : Int32 → Prop, Q (-1) → wpY_fieldPlace Q (yc, yt, ys, ym, no, nb, ya, yw, nI q, yu, yo, yk, yp, ye, ycp, ycf, ymt, kd, ytk, ytp, ysk, yoc, yof, ybt, ybp, sv, vr, ow, ed, wa, yh, vl, ypr, mo, mb) (ytk t) a) (hp : post (yc, yt, ys, ym, no, nb, ya, yw, nI (q + 1), yu, yo, yk, yp, 1, ycp, ycf, ymt, kd, ytk, ytp, ysk, yoc, yof, ybt, ybp, sv, vr, ow, ed, wa, yh, vp_updL vl q 0, ypr, mo, mb)) : wpY_begin post (yc, yt, ys, ym, no, nb, ya, yw, nI q, yu, yo, yk, yp, ye, ycp, ycf, ymt, kd, ytk, ytp, ysk, yoc, yof, ybt, ybp, sv, vr, ow, ed, wa, yh, vl, ypr, mo, mb) (nI t) a :=
  And.intro (vp_in_nI ht (by decide)) (nm_r (e' := 4) (by rw [nI_clamp (by omega)]; exact h2) (And.intro (vp_in_nI ht (by decide)) (nm_r (e' := ytk t) (by rw [nI_clamp (by omega)]) (br_t (by decide) (br_f (by decide) (br_t rfl (h _ (br_f (by decide) (br_f (by decide) (ay_hold _ hq hp)))))))))) 
theorem ay_bg_4o (post : SY → Prop) {t q i : Nat} {a : Int32} (ht : t < 100) (h2 : kd t = 4) (hq : q < 2200) (hi : i < 804) (h : ∀ Q : Int32 → Prop, Q (nI i) → wpY_fieldPlace Q (yc, yt, ys, ym, no, nb, ya, yw, nI q, yu, yo, yk, yp, ye, ycp, ycf, ymt, kd, ytk, ytp, ysk, yoc, yof, ybt, ybp, sv, vr, ow, ed, wa, yh, vl, ypr, mo, mb) (ytk t) a) (hp : post (yc, yt, ys, ym, no, nb, ya, yw, nI (q + 1), yu, yo, yk, yp, ye, ycp, ycf, ymt, kd, ytk, ytp, ysk, yoc, yof, ybt, ybp, sv, vr, ow, ed, wa, yh, vp_updL vl q (yof i), ypr, mo, mb)) : wpY_begin post (yc, yt, ys, ym, no, nb, ya, yw, nI q, yu, yo, yk, yp, ye, ycp, ycf, ymt, kd, ytk, ytp, ysk, yoc, yof, ybt, ybp, sv, vr, ow, ed, wa, yh, vl, ypr, mo, mb) (nI t) a :=
  And.intro (vp_in_nI ht (by decide)) (nm_r (e' := 4) (by rw [nI_clamp (by omega)]; exact h2) (And.intro (vp_in_nI ht (by decide)) (nm_r (e' := ytk t) (by rw [nI_clamp (by omega)]) (br_t (by decide) (br_f (by decide) (br_t rfl (h _ (br_t (nI_pos' (by omega)) (br_t (nI_pos' (by omega)) (And.intro (vp_in_nI hi (by decide)) (by rw [nI_clamp (by omega)]; exact ay_hold _ hq hp))))))))))) 
theorem ay_bg_5 (post : SY → Prop) {t : Nat} {a : Int32} (ht : t < 100) (h2 : kd t = 5) (hp : wpY_makeObject post (yc, yt, ys, ym, no, nb, ya, yw, yv, yu, yo, yk, yp, ye, ycp, ycf, ymt, kd, ytk, ytp, ysk, yoc, yof, ybt, ybp, sv, vr, ow, ed, wa, yh, vl, ypr, mo, mb) (ytk t)) : wpY_begin post (yc, yt, ys, ym, no, nb, ya, yw, yv, yu, yo, yk, yp, ye, ycp, ycf, ymt, kd, ytk, ytp, ysk, yoc, yof, ybt, ybp, sv, vr, ow, ed, wa, yh, vl, ypr, mo, mb) (nI t) a :=
  And.intro (vp_in_nI ht (by decide)) (nm_r (e' := 5) (by rw [nI_clamp (by omega)]; exact h2) (And.intro (vp_in_nI ht (by decide)) (nm_r (e' := ytk t) (by rw [nI_clamp (by omega)]) (br_t (by decide) (br_f (by decide) (br_f (by decide) (br_t rfl hp)))))))
theorem ay_bg_6 (post : SY → Prop) {t : Nat} {a : Int32} (ht : t < 100) (h2 : kd t = 6) (hp : wpY_sendAbove post (yc, yt, ys, ym, no, nb, ya, yw, yv, yu, yo, yk, yp, ye, ycp, ycf, ymt, kd, ytk, ytp, ysk, yoc, yof, ybt, ybp, sv, vr, ow, ed, wa, yh, vl, ypr, mo, mb) (ytk t) 0 a) : wpY_begin post (yc, yt, ys, ym, no, nb, ya, yw, yv, yu, yo, yk, yp, ye, ycp, ycf, ymt, kd, ytk, ytp, ysk, yoc, yof, ybt, ybp, sv, vr, ow, ed, wa, yh, vl, ypr, mo, mb) (nI t) a :=
  And.intro (vp_in_nI ht (by decide)) (nm_r (e' := 6) (by rw [nI_clamp (by omega)]; exact h2) (And.intro (vp_in_nI ht (by decide)) (nm_r (e' := ytk t) (by rw [nI_clamp (by omega)]) (br_t (by decide) (br_f (by decide) (br_f (by decide) (br_f (by decide) (br_t rfl hp))))))))
theorem ay_bg_13 (post : SY → Prop) {t : Nat} {a : Int32} (ht : t < 100) (h2 : kd t = 13) (hp : wpY_makeBlock post (yc, yt, ys, ym, no, nb, ya, yw, yv, yu, yo, yk, yp, ye, ycp, ycf, ymt, kd, ytk, ytp, ysk, yoc, yof, ybt, ybp, sv, vr, ow, ed, wa, yh, vl, ypr, mo, mb) (nI t) a) : wpY_begin post (yc, yt, ys, ym, no, nb, ya, yw, yv, yu, yo, yk, yp, ye, ycp, ycf, ymt, kd, ytk, ytp, ysk, yoc, yof, ybt, ybp, sv, vr, ow, ed, wa, yh, vl, ypr, mo, mb) (nI t) a :=
  And.intro (vp_in_nI ht (by decide)) (nm_r (e' := 13) (by rw [nI_clamp (by omega)]; exact h2) (And.intro (vp_in_nI ht (by decide)) (nm_r (e' := ytk t) (by rw [nI_clamp (by omega)]) (br_t (by decide) (br_f (by decide) (br_f (by decide) (br_f (by decide) (br_f (by decide) (br_t rfl hp)))))))))
theorem ay_nIne {a b : Nat} (h : a ≠ b) (ha : a < 2 ^ 31) (hb : b < 2 ^ 31) : ¬ nI a = nI b := fun e => h ((nI_eq ha hb).mp e)
theorem ay_bg_p (post : SY → Prop) {t a k q p : Nat} (ht : t < 100) (h2 : kd t = nI k) (hk : 10 ≤ k) (hk2 : k < 100) (hk3 : k ≠ 13) (hq : q + 1 < 2200) (h3 : ytp (3 * t) = nI p) (hp : post (yc, yt, ys, ym, no, nb, ya, nI (q + 2), yv, yu, yo, yk, yp, ye, ycp, ycf, ymt, kd, ytk, ytp, ysk, yoc, yof, ybt, ybp, sv, vr, ow, ed, upd (upd wa q (nI (1024 * a + 8 * t + 1))) (q + 1) (nI (1024 * a + 8 * p + 0)), upd (upd yh q yv) (q + 1) yv, vl, ypr, mo, mb)) : wpY_begin post (yc, yt, ys, ym, no, nb, ya, nI q, yv, yu, yo, yk, yp, ye, ycp, ycf, ymt, kd, ytk, ytp, ysk, yoc, yof, ybt, ybp, sv, vr, ow, ed, wa, yh, vl, ypr, mo, mb) (nI t) (nI a) :=
  And.intro (vp_in_nI ht (by decide)) (nm_r (e' := nI k) (by rw [nI_clamp (by omega)]; exact h2) (And.intro (vp_in_nI ht (by decide)) (nm_r (e' := ytk t) (by rw [nI_clamp (by omega)]) (br_t (nI_le (a := 3) (by omega) (by omega)) (br_f (ay_nIne (b := 3) (by omega) (by omega) (by omega)) (br_f (ay_nIne (b := 4) (by omega) (by omega) (by omega)) (br_f (ay_nIne (b := 5) (by omega) (by omega) (by omega)) (br_f (ay_nIne (b := 6) (by omega) (by omega) (by omega)) (br_f (ay_nIne (b := 13) (by omega) (by omega) (by omega)) (ay_wait (s := 1) _ (by omega) (And.intro (by rw [show (3 : Int32) = nI 3 from rfl, pk_mul]; exact vp_in_nI (by omega) (by decide)) (by rw [show (3 : Int32) = nI 3 from rfl, pk_mul, nI_clamp (by omega), h3]; exact ay_wait (s := 0) _ hq hp)))))))))))) 
theorem ay_obj_n (post : SY → Prop) {k : Int32} (hp : post (yc, yt, ys, ym, no, nb, ya, yw, yv, yu, yo, nI 200, yp, 2, ycp, ycf, ymt, kd, ytk, ytp, ysk, yoc, yof, ybt, ybp, sv, vr, ow, ed, wa, yh, vl, ypr, mo, mb)) : wpY_makeObject post (yc, yt, ys, ym, no, nb, ya, yw, yv, yu, yo, nI 200, yp, ye, ycp, ycf, ymt, kd, ytk, ytp, ysk, yoc, yof, ybt, ybp, sv, vr, ow, ed, wa, yh, vl, ypr, mo, mb) k := by
  unfold wpY_makeObject
  exact ay_turn_n _ (br_t rfl hp)
theorem ay_ix4 {t d : Nat} : 4 * nI t + nI d = nI (4 * t + d) := by
  rw [show (4 : Int32) = nI 4 from rfl, pk_mul, nI_add]
theorem ay_nil : ((1 : Int32).toInt64 <<< ((32 : Int32).toInt64 &&& 63)) ||| ((0 : Int32).toInt64 &&& 4294967295) = vb_pk 1 0 := rfl
theorem ay_obj_l (post : SY → Prop) {q t : Nat} (ht : t < 201) (hq : q < 2200) : ∀ e k : Nat, k + e = 4 → post (yc, yt, ys, ym, nI (t + 1), nb, ya, yw, nI (q + 1), yu, yo, yk, yp, ye, ycp, ycf, ymt, kd, ytk, ytp, ysk, yoc, up_n yof (4 * t) (fun _ => vb_pk 1 0) 4, ybt, ybp, sv, vr, ow, ed, wa, yh, vp_updL vl q (vb_pk 4 (nI t)), ypr, mo, mb) → wY_makeObject_19 post yc yt ys ym (nI t) nb ya yw (nI q) yu yo yk yp ye (e + 1) (nI k) ycp ycf ymt kd ytk ytp ysk yoc (up_n yof (4 * t) (fun _ => vb_pk 1 0) k) ybt ybp sv vr ow ed wa yh vl ypr mo mb := by
  intro e
  induction e with
  | zero =>
    intro k h hp
    have : k = 4 := by omega
    subst this
    exact br_t (by decide) (ay_thing _ (ay_hold _ hq (nm_r (nI_1 t) hp)))
  | succ e ih =>
    intro k h hp
    exact br_f (nI_ge (b := 4) (by omega) (by decide)) (And.intro (by rw [ay_ix4]; exact vp_in_nI (by omega) (by decide)) (nm_r (e' := up_n yof (4 * t) (fun _ => vb_pk 1 0) (k + 1)) (by rw [ay_ix4, nI_clamp (by omega)]; rfl) (nm_r (nI_1 k) (ih (k + 1) (by omega) hp))))
theorem ay_obj_f (post : SY → Prop) {q t r : Nat} {c : Int32} (hq : q < 2200) (ht : t < 201) (hr : r < 200) (hp : post (yc, yt, ys, ym, nI (t + 1), nb, ya, yw, nI (q + 1), yu, yo, nI (r + 1), yp, ye, ycp, ycf, ymt, kd, ytk, ytp, ysk, upd yoc t c, up_n yof (4 * t) (fun _ => vb_pk 1 0) 4, ybt, ybp, sv, vr, ow, ed, wa, yh, vp_updL vl q (vb_pk 4 (nI t)), ypr, mo, mb)) : wpY_makeObject post (yc, yt, ys, ym, nI t, nb, ya, yw, nI q, yu, yo, nI r, yp, ye, ycp, ycf, ymt, kd, ytk, ytp, ysk, yoc, yof, ybt, ybp, sv, vr, ow, ed, wa, yh, vl, ypr, mo, mb) c := by
  unfold wpY_makeObject
  exact ay_turn_f _ hr (br_f (by decide) (And.intro (vp_in_nI ht (by decide)) (nm_r (e' := upd yoc t c) (by rw [nI_clamp (by omega)]) (Exists.intro 5 (ay_obj_l post ht hq 4 0 rfl hp)))))
theorem ay_blk_n (post : SY → Prop) {k a : Int32} (hp : post (yc, yt, ys, ym, no, nb, ya, yw, yv, yu, yo, nI 200, yp, 2, ycp, ycf, ymt, kd, ytk, ytp, ysk, yoc, yof, ybt, ybp, sv, vr, ow, ed, wa, yh, vl, ypr, mo, mb)) : wpY_makeBlock post (yc, yt, ys, ym, no, nb, ya, yw, yv, yu, yo, nI 200, yp, ye, ycp, ycf, ymt, kd, ytk, ytp, ysk, yoc, yof, ybt, ybp, sv, vr, ow, ed, wa, yh, vl, ypr, mo, mb) k a := by
  unfold wpY_makeBlock
  exact ay_turn_n _ (br_t rfl hp)
theorem ay_blk_f (post : SY → Prop) {q t r : Nat} {k a : Int32} (hq : q < 2200) (ht : t < 201) (hr : r < 200) (hp : post (yc, yt, ys, ym, no, nI (t + 1), ya, yw, nI (q + 1), yu, yo, nI (r + 1), yp, ye, ycp, ycf, ymt, kd, ytk, ytp, ysk, yoc, yof, upd ybt t k, upd ybp t a, sv, vr, ow, ed, wa, yh, vp_updL vl q (vb_pk 3 (nI t)), ypr, mo, mb)) : wpY_makeBlock post (yc, yt, ys, ym, no, nI t, ya, yw, nI q, yu, yo, nI r, yp, ye, ycp, ycf, ymt, kd, ytk, ytp, ysk, yoc, yof, ybt, ybp, sv, vr, ow, ed, wa, yh, vl, ypr, mo, mb) k a := by
  unfold wpY_makeBlock
  exact ay_turn_f _ hr (br_f (by decide) (And.intro (vp_in_nI ht (by decide)) (nm_r (e' := upd ybt t k) (by rw [nI_clamp (by omega)]) (And.intro (vp_in_nI ht (by decide)) (nm_r (e' := upd ybp t a) (by rw [nI_clamp (by omega)]) (ay_thing _ (ay_hold _ hq (nm_r (nI_1 t) hp))))))))
theorem ay_print_s (post : SY → Prop) {q : Nat} (hq : q < 2200) (h1 : ¬ vb_T (vl q) = 2) (hp : post (yc, yt, ys, ym, no, nb, ya, yw, nI (q + 1), yu, yo, yk, yp, 1, ycp, ycf, ymt, kd, ytk, ytp, ysk, yoc, yof, ybt, ybp, sv, vr, ow, ed, wa, yh, vl, ypr, mo, mb)) : wpY_print post (yc, yt, ys, ym, no, nb, ya, yw, nI (q + 1), yu, yo, yk, yp, ye, ycp, ycf, ymt, kd, ytk, ytp, ysk, yoc, yof, ybt, ybp, sv, vr, ow, ed, wa, yh, vl, ypr, mo, mb) :=
  And.intro (by rw [nI_pred]; exact vp_in_nI hq (by decide)) (nm_r (e' := vl q) (by rw [nI_pred, nI_clamp (by omega)]) (br_f h1 (br_f h1 hp)))
theorem ay_print_n (post : SY → Prop) {q : Nat} (hq : q < 2200) (h1 : vb_T (vl q) = 2) (hp : post (yc, yt, ys, ym, no, nb, ya, yw, nI (q + 1), yu, yo, yk, nI 20, 4, ycp, ycf, ymt, kd, ytk, ytp, ysk, yoc, yof, ybt, ybp, sv, vr, ow, ed, wa, yh, vl, ypr, mo, mb)) : wpY_print post (yc, yt, ys, ym, no, nb, ya, yw, nI (q + 1), yu, yo, yk, nI 20, ye, ycp, ycf, ymt, kd, ytk, ytp, ysk, yoc, yof, ybt, ybp, sv, vr, ow, ed, wa, yh, vl, ypr, mo, mb) :=
  And.intro (by rw [nI_pred]; exact vp_in_nI hq (by decide)) (nm_r (e' := vl q) (by rw [nI_pred, nI_clamp (by omega)]) (br_t h1 (br_t rfl (br_t h1 hp))))
theorem ay_print_f (post : SY → Prop) {q r : Nat} (hq : q < 2200) (hr : r < 20) (h1 : vb_T (vl q) = 2) (hp : post (yc, yt, ys, ym, no, nb, ya, yw, nI (q + 1), yu, yo, yk, nI (r + 1), ye, ycp, ycf, ymt, kd, ytk, ytp, ysk, yoc, yof, ybt, ybp, sv, vr, ow, ed, wa, yh, vl, upd ypr r (vl q).toInt32, mo, mb)) : wpY_print post (yc, yt, ys, ym, no, nb, ya, yw, nI (q + 1), yu, yo, yk, nI r, ye, ycp, ycf, ymt, kd, ytk, ytp, ysk, yoc, yof, ybt, ybp, sv, vr, ow, ed, wa, yh, vl, ypr, mo, mb) :=
  And.intro (by rw [nI_pred]; exact vp_in_nI hq (by decide)) (nm_r (e' := vl q) (by rw [nI_pred, nI_clamp (by omega)]) (br_t h1 (br_f (ay_nIne (b := 20) (by omega) (by omega) (by omega)) (And.intro (vp_in_nI hr (by decide)) (nm_r (e' := upd ypr r (vl q).toInt32) (by rw [nI_clamp (by omega)]) (nm_r (nI_1 r) hp))))))
end
end
section
section
variable {nc nt ns mn n na f ws vs en pc tc dc : Int32} {rs : Int64} {cp cf mt op tk tp fp sk oc bt ba rd ac af fa fw fv wt wd pr mc : Nat → Int32} {of sl wv : Nat → Int64}
theorem ax_may_t (post : Int32 → SX → Prop) (hp : post 0 (nc, nt, ns, mn, n, na, f, ws, vs, 2, rs, pc, nI 200, dc, cp, cf, mt, op, tk, tp, fp, sk, oc, of, bt, ba, rd, sl, ac, af, fa, fw, fv, wt, wd, wv, pr, mc)) : wpX_mayEnter post (nc, nt, ns, mn, n, na, f, ws, vs, en, rs, pc, nI 200, dc, cp, cf, mt, op, tk, tp, fp, sk, oc, of, bt, ba, rd, sl, ac, af, fa, fw, fv, wt, wd, wv, pr, mc) := by
  unfold wpX_mayEnter
  exact ax_turn_n _ (br_t rfl hp)
theorem ax_may_d (post : Int32 → SX → Prop) {r : Nat} (hr : r < 200) (hp : post 0 (nc, nt, ns, mn, n, na, nI 20, ws, vs, 3, rs, pc, nI (r + 1), dc, cp, cf, mt, op, tk, tp, fp, sk, oc, of, bt, ba, rd, sl, ac, af, fa, fw, fv, wt, wd, wv, pr, mc)) : wpX_mayEnter post (nc, nt, ns, mn, n, na, nI 20, ws, vs, en, rs, pc, nI r, dc, cp, cf, mt, op, tk, tp, fp, sk, oc, of, bt, ba, rd, sl, ac, af, fa, fw, fv, wt, wd, wv, pr, mc) := by
  unfold wpX_mayEnter
  exact ax_turn_f _ hr (br_f (by decide) (br_f (by decide) hp))
theorem ax_may_f (post : Int32 → SX → Prop) {r g : Nat} (hr : r < 200) (hg : g < 20) (hp : post 1 (nc, nt, ns, mn, n, na, nI g, ws, vs, en, rs, pc, nI (r + 1), dc, cp, cf, mt, op, tk, tp, fp, sk, oc, of, bt, ba, rd, sl, ac, af, fa, fw, fv, wt, wd, wv, pr, mc)) : wpX_mayEnter post (nc, nt, ns, mn, n, na, nI g, ws, vs, en, rs, pc, nI r, dc, cp, cf, mt, op, tk, tp, fp, sk, oc, of, bt, ba, rd, sl, ac, af, fa, fw, fv, wt, wd, wv, pr, mc) := by
  unfold wpX_mayEnter
  exact ax_turn_f _ hr (br_f (by decide) (br_t (nI_lt (b := 20) hg (by decide)) hp))
theorem ax_open (post : SX → Prop) {g d : Nat} {a : Int32} (hg : g < 20) (hd : d < 1000) (hp : post (nc, nt, ns, mn, n, na, nI (g + 1), ws, vs, en, rs, pc, tc, nI (ay_mx g d), cp, cf, mt, op, tk, tp, fp, sk, oc, of, bt, ba, rd, sl, ac, af, upd fa (g + 1) a, upd fw (g + 1) ws, upd fv (g + 1) vs, wt, wd, wv, pr, mc)) : wpX_openFrame post (nc, nt, ns, mn, n, na, nI g, ws, vs, en, rs, pc, tc, nI d, cp, cf, mt, op, tk, tp, fp, sk, oc, of, bt, ba, rd, sl, ac, af, fa, fw, fv, wt, wd, wv, pr, mc) a := by
  refine nm_r (nI_1 g) (And.intro (vp_in_nI (by omega) (by decide)) (nm_r (e' := upd fa (g + 1) a) (by rw [nI_clamp (by omega)]) (And.intro (vp_in_nI (by omega) (by decide)) (nm_r (e' := upd fw (g + 1) ws) (by rw [nI_clamp (by omega)]) (And.intro (vp_in_nI (by omega) (by decide)) (nm_r (e' := upd fv (g + 1) vs) (by rw [nI_clamp (by omega)]) ?_))))))
  by_cases z : g + 1 ≤ d
  · rw [show ay_mx g d = d from if_pos z] at hp
    exact br_t (nI_le z (by omega)) hp
  · rw [show ay_mx g d = g + 1 from if_neg z] at hp
    exact br_f (nI_ge (by omega) (by omega)) hp
theorem ax_ix7 {a j : Nat} : nI a * 7 + nI j = nI (a * 7 + j) := by
  rw [show (7 : Int32) = nI 7 from rfl, pk_mul, nI_add]
theorem ax_ix6 {c s : Nat} : nI c * 6 + nI s = nI (6 * c + s) := by
  rw [show (6 : Int32) = nI 6 from rfl, pk_mul, nI_add, Nat.mul_comm]
def ax_ga (args : Nat) (w : Nat → Int64) (b : Nat) (j : Nat) : Int64 := if j < args then w (b + j) else vb_pk 1 0
theorem ax_act_l (post : SX → Prop) {a g w v d o s tm args tn fA : Nat} {self : Int64} (ha : a < 201) (hg : g < 20) (hw : w < 2100) (hd : d < 1000) (ho : o < 6) (hs : s < 6) (hf : fA + args ≤ 2100) (hv : v + tn = fA + args) (hm : mt (6 * o + s) = nI tm) (hp : post (nc, nt, ns, mn, n, na, nI (g + 1), nI (w + 1), nI v, en, rs, pc, tc, nI (ay_mx g d), cp, cf, mt, op, tk, tp, fp, sk, oc, of, bt, ba, rd, vp_updL (up_n sl (a * 7) (ax_ga args wv fA) 6) (a * 7 + 6) self, upd ac a (nI o), upd af a (nI (g + 1)), upd fa (g + 1) (nI a), upd fw (g + 1) (nI w), upd fv (g + 1) (nI v), upd wt w (nI tm), upd wd w 0, wv, pr, mc)) : ∀ e k : Nat, k + e = 6 → wX_activate_34 post (nI o) (nI s) self (nI tn) (nI a) (nI args) (nI fA) nc nt ns mn n na (nI g) (nI w) (nI (fA + args)) en rs pc tc (nI d) (e + 1) (nI k) cp cf mt op tk tp fp sk oc of bt ba rd (up_n sl (a * 7) (ax_ga args wv fA) k) ac af fa fw fv wt wd wv pr mc := by
  intro e
  induction e with
  | zero =>
    intro k h
    have : k = 6 := by omega
    subst this
    refine br_t (by decide) (And.intro (by rw [show (6 : Int32) = nI 6 from rfl, ax_ix7]; exact vp_in_nI (by omega) (by decide)) (nm_r (e' := vp_updL (up_n sl (a * 7) (ax_ga args wv fA) 6) (a * 7 + 6) self) (by rw [show nI a * 7 + 6 = nI (a * 7 + 6) from ax_ix7 (j := 6), nI_clamp (by omega)]) (And.intro (vp_in_nI ha (by decide)) (nm_r (e' := upd ac a (nI o)) (by rw [nI_clamp (by omega)]) (And.intro (vp_in_nI ha (by decide)) (nm_r (e' := upd af a (nI (g + 1))) (by rw [nI_clamp (by omega), nI_1]) (nm_r (e' := nI v) (by rw [pk_sub (by omega)]; exact congrArg nI (by omega)) (ax_open _ hg hd (And.intro (by rw [ax_ix6]; exact vp_in_nI (by omega) (by decide)) ?_)))))))))
    rw [ax_ix6, nI_clamp (by omega), hm]
    exact ax_begin _ hw hp
  | succ e ih =>
    intro k h
    refine br_f (nI_ge (b := 6) (by omega) (by decide)) ?_
    have h1 : vp_in (nI a * 7 + nI k) 1407 := by rw [ax_ix7]; exact vp_in_nI (by omega) (by decide)
    have h2 : (nI a * 7 + nI k).toNatClampNeg = a * 7 + k := by rw [ax_ix7]; exact nI_clamp (by omega)
    by_cases z : k < args
    · have h3 : nI fA + nI k = nI (fA + k) := nI_add _ _
      exact br_f (nI_ge z (by omega)) (And.intro (by rw [h3]; exact vp_in_nI (by omega) (by decide)) (And.intro h1 (nm_r (e' := up_n sl (a * 7) (ax_ga args wv fA) (k + 1)) (by rw [h2, h3, nI_clamp (by omega)]; show _ = vp_updL _ _ (ax_ga args wv fA k); rw [show ax_ga args wv fA k = wv (fA + k) from if_pos z]) (nm_r (nI_1 k) (ih (k + 1) (by omega))))))
    · exact br_t (nI_le (by omega) (by omega)) (And.intro h1 (nm_r (e' := up_n sl (a * 7) (ax_ga args wv fA) (k + 1)) (by rw [h2, vb_nil]; show _ = vp_updL _ _ (ax_ga args wv fA k); rw [show ax_ga args wv fA k = vb_pk 1 0 from if_neg z]) (nm_r (nI_1 k) (ih (k + 1) (by omega)))))
theorem ax_act (post : SX → Prop) {a g w v d o s tm tn fA : Nat} {self : Int64} (ha : a < 201) (hg : g < 20) (hw : w < 2100) (hd : d < 1000) (ho : o < 6) (hs : s < 6) (hf : fA + s % 3 ≤ 2100) (hv : v + tn = fA + s % 3) (hm : mt (6 * o + s) = nI tm) (hp : post (nc, nt, ns, mn, n, nI (a + 1), nI (g + 1), nI (w + 1), nI v, en, rs, pc, tc, nI (ay_mx g d), cp, cf, mt, op, tk, tp, fp, sk, oc, of, bt, ba, rd, vp_updL (up_n sl (a * 7) (ax_ga (s % 3) wv fA) 6) (a * 7 + 6) self, upd ac a (nI o), upd af a (nI (g + 1)), upd fa (g + 1) (nI a), upd fw (g + 1) (nI w), upd fv (g + 1) (nI v), upd wt w (nI tm), upd wd w 0, wv, pr, mc)) : wpX_activate post (nc, nt, ns, mn, n, nI a, nI g, nI w, nI (fA + s % 3), en, rs, pc, tc, nI d, cp, cf, mt, op, tk, tp, fp, sk, oc, of, bt, ba, rd, sl, ac, af, fa, fw, fv, wt, wd, wv, pr, mc) (nI o) (nI s) self (nI tn) :=
  nm_r (nI_1 a) (ax_args _ hs (nm_r (e' := nI fA) (by rw [pk_sub (by omega)]; exact congrArg nI (by omega)) (Exists.intro 7 (ax_act_l post ha hg hw hd ho hs hf hv hm hp 6 0 rfl))))
/-! call -/
theorem ax_call_s (post : SX → Prop) {q : Nat} {x : Int32} {z : Int64} (hq : q < 2100) (h1 : ¬ vb_T (wv q) = 3) (hp : post (nc, nt, ns, mn, n, na, f, ws, nI q, 1, rs, pc, tc, dc, cp, cf, mt, op, tk, tp, fp, sk, oc, of, bt, ba, rd, sl, ac, af, fa, fw, fv, wt, wd, wv, pr, mc)) : wX_finishCall_14 post x z nc nt ns mn n na f ws (nI (q + 1)) en rs pc tc dc cp cf mt op tk tp fp sk oc of bt ba rd sl ac af fa fw fv wt wd wv pr mc := by
  unfold wX_finishCall_14
  exact ax_pop _ hq (br_f h1 hp)
theorem ax_call_h (post : SX → Prop) {q b t : Nat} {x y k : Int32} {z : Int64} (hq : q < 2100) (h1 : wv q = vb_pk 3 (nI b)) (hb : b < 200) (h2 : bt b = nI t) (ht : t < 100) (h3 : tk t = k) (hy : (k = -1 ∧ y = 0) ∨ (¬ k = -1 ∧ y = 1)) (hp : wX_finishCall_73 post x z (nI b) (nI t) k y x nc nt ns mn n na f ws (nI q) en rs pc tc dc cp cf mt op tk tp fp sk oc of bt ba rd sl ac af fa fw fv wt wd wv pr mc) : wX_finishCall_14 post x z nc nt ns mn n na f ws (nI (q + 1)) en rs pc tc dc cp cf mt op tk tp fp sk oc of bt ba rd sl ac af fa fw fv wt wd wv pr mc := by
  refine ax_pop _ hq ?_
  rw [h1]
  refine ax_sort _ (vC_3 _) (br_t rfl (ax_num _ (And.intro (vp_in_nI hb (by decide)) (nm_r (e' := nI t) (by rw [nI_clamp (by omega)]; exact h2) (And.intro (vp_in_nI ht (by decide)) (nm_r (e' := k) (by rw [nI_clamp (by omega)]; exact h3) ?_))))))
  rcases hy with ⟨hk, rfl⟩ | ⟨hk, rfl⟩
  · exact br_t hk hp
  · exact br_f hk hp
theorem ax_call_m (post : SX → Prop) {x y k b t : Int32} {z : Int64} (h : ¬ x = y) (hp : post (nc, nt, ns, mn, n, na, f, ws, vs, 1, rs, pc, tc, dc, cp, cf, mt, op, tk, tp, fp, sk, oc, of, bt, ba, rd, sl, ac, af, fa, fw, fv, wt, wd, wv, pr, mc)) : wX_finishCall_73 post x z b t k y x nc nt ns mn n na f ws vs en rs pc tc dc cp cf mt op tk tp fp sk oc of bt ba rd sl ac af fa fw fv wt wd wv pr mc :=
  br_f h hp
theorem ax_call_t (post : SX → Prop) {x k b t : Int32} {z : Int64} (hp : post (nc, nt, ns, mn, n, na, f, ws, vs, 2, rs, pc, nI 200, dc, cp, cf, mt, op, tk, tp, fp, sk, oc, of, bt, ba, rd, sl, ac, af, fa, fw, fv, wt, wd, wv, pr, mc)) : wX_finishCall_73 post x z b t k x x nc nt ns mn n na f ws vs en rs pc (nI 200) dc cp cf mt op tk tp fp sk oc of bt ba rd sl ac af fa fw fv wt wd wv pr mc :=
  br_t rfl (ax_may_t _ (br_t rfl hp))
theorem ax_call_d (post : SX → Prop) {r : Nat} {x k b t : Int32} {z : Int64} (hr : r < 200) (hp : post (nc, nt, ns, mn, n, na, nI 20, ws, vs, 3, rs, pc, nI (r + 1), dc, cp, cf, mt, op, tk, tp, fp, sk, oc, of, bt, ba, rd, sl, ac, af, fa, fw, fv, wt, wd, wv, pr, mc)) : wX_finishCall_73 post x z b t k x x nc nt ns mn n na (nI 20) ws vs en rs pc (nI r) dc cp cf mt op tk tp fp sk oc of bt ba rd sl ac af fa fw fv wt wd wv pr mc :=
  br_t rfl (ax_may_d _ hr (br_t rfl hp))
theorem ax_call_f0 (post : SX → Prop) {r g w d b t a p : Nat} {k : Int32} {z : Int64} (hr : r < 200) (hg : g < 20) (hw : w < 2100) (hd : d < 1000) (hb : b < 200) (ht : t < 100) (h1 : ba b = nI a) (h2 : tp (3 * t) = nI p) (hp : post (nc, nt, ns, mn, n, na, nI (g + 1), nI (w + 1), vs, en, rs, pc, nI (r + 1), nI (ay_mx g d), cp, cf, mt, op, tk, tp, fp, sk, oc, of, bt, ba, rd, sl, ac, af, upd fa (g + 1) (nI a), upd fw (g + 1) (nI w), upd fv (g + 1) vs, upd wt w (nI p), upd wd w 0, wv, pr, mc)) : wX_finishCall_73 post 0 z (nI b) (nI t) k 0 0 nc nt ns mn n na (nI g) (nI w) vs en rs pc (nI r) (nI d) cp cf mt op tk tp fp sk oc of bt ba rd sl ac af fa fw fv wt wd wv pr mc :=
  br_t rfl (ax_may_f _ hr hg (br_f (by decide) (And.intro (vp_in_nI hb (by decide)) (nm_r (e' := nI a) (by rw [nI_clamp (by omega)]; exact h1) (br_t rfl (ax_open _ hg hd (And.intro (by rw [show (3 : Int32) = nI 3 from rfl, pk_mul]; exact vp_in_nI (by omega) (by decide)) (by rw [show (3 : Int32) = nI 3 from rfl, pk_mul, Nat.mul_comm t 3, nI_clamp (by omega), h2]; exact ax_begin _ hw hp))))))))
theorem ax_call_f1 (post : SX → Prop) {r g w d b t a p k : Nat} {z : Int64} (hr : r < 200) (hg : g < 20) (hw : w < 2100) (hd : d < 1000) (hb : b < 200) (ht : t < 100) (ha : a < 201) (hk : k < 6) (h1 : ba b = nI a) (h2 : tp (3 * t) = nI p) (hp : post (nc, nt, ns, mn, n, na, nI (g + 1), nI (w + 1), vs, en, rs, pc, nI (r + 1), nI (ay_mx g d), cp, cf, mt, op, tk, tp, fp, sk, oc, of, bt, ba, rd, vp_updL sl (a * 7 + k) z, ac, af, upd fa (g + 1) (nI a), upd fw (g + 1) (nI w), upd fv (g + 1) vs, upd wt w (nI p), upd wd w 0, wv, pr, mc)) : wX_finishCall_73 post 1 z (nI b) (nI t) (nI k) 1 1 nc nt ns mn n na (nI g) (nI w) vs en rs pc (nI r) (nI d) cp cf mt op tk tp fp sk oc of bt ba rd sl ac af fa fw fv wt wd wv pr mc :=
  br_t rfl (ax_may_f _ hr hg (br_f (by decide) (And.intro (vp_in_nI hb (by decide)) (nm_r (e' := nI a) (by rw [nI_clamp (by omega)]; exact h1) (br_f (by decide) (And.intro (by rw [ax_ix7]; exact vp_in_nI (by omega) (by decide)) (nm_r (e' := vp_updL sl (a * 7 + k) z) (by rw [ax_ix7, nI_clamp (by omega)]) (ax_open _ hg hd (And.intro (by rw [show (3 : Int32) = nI 3 from rfl, pk_mul]; exact vp_in_nI (by omega) (by decide)) (by rw [show (3 : Int32) = nI 3 from rfl, pk_mul, Nat.mul_comm t 3, nI_clamp (by omega), h2]; exact ax_begin _ hw hp))))))))))
/-! loop -/
theorem ax_loop_b (post : SX → Prop) {q w : Nat} {t : Int32} (hq : q < 2100) (hw : w < 2100) (h1 : wd w = 2) (hp : post (nc, nt, ns, mn, n, na, f, nI (w + 1), nI q, en, rs, pc, tc, dc, cp, cf, mt, op, tk, tp, fp, sk, oc, of, bt, ba, rd, sl, ac, af, fa, fw, fv, upd wt w t, upd wd w 0, wv, pr, mc)) : wpX_finishLoop post (nc, nt, ns, mn, n, na, f, nI w, nI (q + 1), en, rs, pc, tc, dc, cp, cf, mt, op, tk, tp, fp, sk, oc, of, bt, ba, rd, sl, ac, af, fa, fw, fv, wt, wd, wv, pr, mc) t :=
  And.intro (vp_in_nI hw (by decide)) (br_t (by rw [nI_clamp (by omega)]; exact h1) (ax_pop _ hq (br_f (by decide) (ax_begin _ hw hp))))
theorem ax_loop_s (post : SX → Prop) {q w : Nat} {t : Int32} (hq : q < 2100) (hw : w < 2100) (h1 : ¬ wd w = 2) (h2 : ¬ vb_T (wv q) = 2) (hp : post (nc, nt, ns, mn, n, na, f, nI w, nI q, 1, rs, pc, tc, dc, cp, cf, mt, op, tk, tp, fp, sk, oc, of, bt, ba, rd, sl, ac, af, fa, fw, fv, wt, wd, wv, pr, mc)) : wpX_finishLoop post (nc, nt, ns, mn, n, na, f, nI w, nI (q + 1), en, rs, pc, tc, dc, cp, cf, mt, op, tk, tp, fp, sk, oc, of, bt, ba, rd, sl, ac, af, fa, fw, fv, wt, wd, wv, pr, mc) t :=
  And.intro (vp_in_nI hw (by decide)) (br_f (by rw [nI_clamp (by omega)]; exact h1) (ax_pop _ hq (br_t rfl (br_f h2 hp))))
theorem ax_loop_0 (post : SX → Prop) {q w : Nat} {t : Int32} (hq : q < 2100) (hw : w < 2100) (h1 : ¬ wd w = 2) (h2 : vb_T (wv q) = 2) (h3 : (wv q).toInt32 = 0) (hp : post (nc, nt, ns, mn, n, na, f, nI w, nI (q + 1), en, rs, pc, tc, dc, cp, cf, mt, op, tk, tp, fp, sk, oc, of, bt, ba, rd, sl, ac, af, fa, fw, fv, wt, wd, vp_updL wv q (vb_pk 1 0), pr, mc)) : wpX_finishLoop post (nc, nt, ns, mn, n, na, f, nI w, nI (q + 1), en, rs, pc, tc, dc, cp, cf, mt, op, tk, tp, fp, sk, oc, of, bt, ba, rd, sl, ac, af, fa, fw, fv, wt, wd, wv, pr, mc) t :=
  And.intro (vp_in_nI hw (by decide)) (br_f (by rw [nI_clamp (by omega)]; exact h1) (ax_pop _ hq (br_t rfl (br_t h2 (br_t h3 (by rw [vb_nil]; exact ax_push _ hq hp))))))
theorem ax_loop_t (post : SX → Prop) {q w : Nat} {t : Int32} (hq : q < 2100) (hw : w < 2100) (h1 : ¬ wd w = 2) (h2 : vb_T (wv q) = 2) (h3 : ¬ (wv q).toInt32 = 0) (hp : post (nc, nt, ns, mn, n, na, f, nI w, nI q, 2, rs, pc, nI 200, dc, cp, cf, mt, op, tk, tp, fp, sk, oc, of, bt, ba, rd, sl, ac, af, fa, fw, fv, wt, wd, wv, pr, mc)) : wpX_finishLoop post (nc, nt, ns, mn, n, na, f, nI w, nI (q + 1), en, rs, pc, nI 200, dc, cp, cf, mt, op, tk, tp, fp, sk, oc, of, bt, ba, rd, sl, ac, af, fa, fw, fv, wt, wd, wv, pr, mc) t :=
  And.intro (vp_in_nI hw (by decide)) (br_f (by rw [nI_clamp (by omega)]; exact h1) (ax_pop _ hq (br_t rfl (br_t h2 (br_f h3 (ax_turn_n _ (br_t rfl hp)))))))
theorem ax_loop_f (post : SX → Prop) {q w r t p : Nat} (hq : q < 2100) (hw : w + 1 < 2100) (hr : r < 200) (ht : t < 100) (h1 : ¬ wd w = 2) (h2 : vb_T (wv q) = 2) (h3 : ¬ (wv q).toInt32 = 0) (h4 : tp (3 * t + 1) = nI p) (hp : post (nc, nt, ns, mn, n, na, f, nI (w + 2), nI q, en, rs, pc, nI (r + 1), dc, cp, cf, mt, op, tk, tp, fp, sk, oc, of, bt, ba, rd, sl, ac, af, fa, fw, fv, upd (upd wt w (nI t)) (w + 1) (nI p), upd (upd (upd wd w 0) w 2) (w + 1) 0, wv, pr, mc)) : wpX_finishLoop post (nc, nt, ns, mn, n, na, f, nI w, nI (q + 1), en, rs, pc, nI r, dc, cp, cf, mt, op, tk, tp, fp, sk, oc, of, bt, ba, rd, sl, ac, af, fa, fw, fv, wt, wd, wv, pr, mc) (nI t) :=
  And.intro (vp_in_nI (by omega) (by decide)) (br_f (by rw [nI_clamp (by omega)]; exact h1) (ax_pop _ hq (br_t rfl (br_t h2 (br_f h3 (ax_turn_f _ hr (br_f (by decide) (ax_begin _ (by omega) (And.intro (by rw [nI_pred]; exact vp_in_nI (by omega) (by decide)) (nm_r (e' := upd (upd wd w 0) w 2) (by rw [nI_pred, nI_clamp (by omega)]) (And.intro (by rw [show (1 : Int32) = nI 1 from rfl, ax_ix3]; exact vp_in_nI (by omega) (by decide)) (by rw [show nI t * 3 + 1 = nI (3 * t + 1) from ax_ix3 (d := 1), nI_clamp (by omega), h4]; exact ax_begin _ hw hp))))))))))))
/-! arithmetic -/
def ax_r (k : Nat) (x y : Int32) : Int32 := if k = 15 then x + y else if k = 16 then x - y else if k = 17 then x * y else if y ≤ x then 0 else 1
theorem ax_ar_s (post : SX → Prop) {q : Nat} {o : Int32} (hq : q + 1 < 2100) (h : ¬ (vb_T (wv q) = 2 ∧ vb_T (wv (q + 1)) = 2)) (hp : post (nc, nt, ns, mn, n, na, f, ws, nI q, 1, rs, pc, tc, dc, cp, cf, mt, op, tk, tp, fp, sk, oc, of, bt, ba, rd, sl, ac, af, fa, fw, fv, wt, wd, wv, pr, mc)) : wpX_finishArithmetic post (nc, nt, ns, mn, n, na, f, ws, nI (q + 2), en, rs, pc, tc, dc, cp, cf, mt, op, tk, tp, fp, sk, oc, of, bt, ba, rd, sl, ac, af, fa, fw, fv, wt, wd, wv, pr, mc) o := by
  unfold wpX_finishArithmetic
  exact ax_pop (q := q + 1) _ hq (ax_pop _ (by omega) (by
    by_cases z : vb_T (wv q) = 2
    · exact br_t z (br_f (fun e => h ⟨z, e⟩) hp)
    · exact br_f z hp))
theorem ax_ar_f (post : SX → Prop) {q o : Nat} (hq : q + 1 < 2100) (ho : 15 ≤ o ∧ o ≤ 18) (h1 : vb_T (wv q) = 2) (h2 : vb_T (wv (q + 1)) = 2) (hp : post (nc, nt, ns, mn, n, na, f, ws, nI (q + 1), en, rs, pc, tc, dc, cp, cf, mt, op, tk, tp, fp, sk, oc, of, bt, ba, rd, sl, ac, af, fa, fw, fv, wt, wd, vp_updL wv q (vb_pk 2 (ax_r o (wv q).toInt32 (wv (q + 1)).toInt32)), pr, mc)) : wpX_finishArithmetic post (nc, nt, ns, mn, n, na, f, ws, nI (q + 2), en, rs, pc, tc, dc, cp, cf, mt, op, tk, tp, fp, sk, oc, of, bt, ba, rd, sl, ac, af, fa, fw, fv, wt, wd, wv, pr, mc) (nI o) := by
  unfold wpX_finishArithmetic
  exact ax_pop (q := q + 1) _ hq (ax_pop _ (by omega) (br_t h1 (br_t h2 (by
    have hc : o = 15 ∨ o = 16 ∨ o = 17 ∨ o = 18 := by omega
    rcases hc with rfl | rfl | rfl | rfl
    · exact br_f (by decide) (br_f (by decide) (br_t (by decide) (ax_pushInt _ (by omega) hp)))
    · exact br_f (by decide) (br_f (by decide) (br_f (by decide) (br_t (by decide) (ax_pushInt _ (by omega) hp))))
    · exact br_f (by decide) (br_f (by decide) (br_f (by decide) (br_f (by decide) (br_t (by decide) (ax_pushInt _ (by omega) hp)))))
    · refine br_f (by decide) (br_t (by decide) ?_)
      by_cases z : (wv (q + 1)).toInt32 ≤ (wv q).toInt32
      · rw [show ax_r 18 (wv q).toInt32 (wv (q + 1)).toInt32 = 0 from if_pos z] at hp
        exact br_t z (ax_pushInt _ (by omega) hp)
      · rw [show ax_r 18 (wv q).toInt32 (wv (q + 1)).toInt32 = 1 from if_neg z] at hp
        exact br_f z (ax_pushInt _ (by omega) hp)))))
end
end
section
section
variable {yc yt ys ym no nb ya yw yv yu yo yk yp ye : Int32} {ycp ycf ymt kd ytk ytp ysk yoc ybt ybp ow ed wa yh ypr mo mb : Nat → Int32} {yof sv vr vl : Nat → Int64}
theorem ay_act_l (post : SY → Prop) {a g d o s tm args hA h' q : Nat} {rf : Int32} (ha : a < 202) (hq : q + 1 < 2200) (hg : g < 20) (hd : d < 1000) (ho : o < 6) (hs : s < 6) (hA' : hA + args ≤ 2200) (hr : (rf = 0 ∧ h' = hA) ∨ (¬ rf = 0 ∧ h' + 1 = hA)) (hm : ymt (6 * o + s) = nI tm) (hp : post (yc, yt, ys, ym, no, nb, nI (a + 1), nI (q + 2), nI h', nI (g + 1), nI (ay_mx g d), yk, yp, ye, ycp, ycf, ymt, kd, ytk, ytp, ysk, yoc, yof, ybt, ybp, sv, up_n vr (6 * a) (ax_ga args vl hA) 6, ow, ed, upd (upd wa q (nI (1024 * a + 8 * 127 + 0))) (q + 1) (nI (1024 * a + 8 * tm + 0)), upd (upd yh q (nI h')) (q + 1) (nI h'), vl, ypr, mo, mb)) : ∀ e k : Nat, k + e = 6 → wY_activate_99 post (nI s) (nI args) rf (nI o) yc yt ys ym no nb (nI a) (nI q) (nI hA) (nI g) (nI d) yk yp ye (e + 1) (nI k) ycp ycf ymt kd ytk ytp ysk yoc yof ybt ybp sv (up_n vr (6 * a) (ax_ga args vl hA) k) ow ed wa yh vl ypr mo mb := by
  intro e
  induction e with
  | zero =>
    intro k h
    have : k = 6 := by omega
    subst this
    have L : ∀ z : Int32, z = nI h' → wY_activate_174 post (nI s) (nI o) z yc yt ys ym no nb (nI a) (nI q) (nI hA) (nI g) (nI d) yk yp ye ycp ycf ymt kd ytk ytp ysk yoc yof ybt ybp sv (up_n vr (6 * a) (ax_ga args vl hA) 6) ow ed wa yh vl ypr mo mb := by
      intro z hz
      subst hz
      refine nm_r (nI_1 a) (And.intro (by rw [ay_ix6]; exact vp_in_nI (by omega) (by decide)) ?_)
      rw [ay_ix6, nI_clamp (by omega), hm, nI_pred]
      exact ay_enter_f (m := 127) _ hq hg hd hp
    refine br_t (by decide) ?_
    rcases hr with ⟨h1, h2⟩ | ⟨h1, h2⟩
    · exact br_t h1 (L _ (by rw [h2]))
    · exact br_f h1 (L _ (by rw [← h2, nI_pred]))
  | succ e ih =>
    intro k h
    refine br_f (nI_ge (b := 6) (by omega) (by decide)) ?_
    have h1 : vp_in (6 * nI a + nI k) 1212 := by rw [ay_ix6]; exact vp_in_nI (by omega) (by decide)
    have h2 : (6 * nI a + nI k).toNatClampNeg = 6 * a + k := by rw [ay_ix6]; exact nI_clamp (by omega)
    by_cases z : k < args
    · have h3 : nI hA + nI k = nI (hA + k) := nI_add _ _
      exact br_f (nI_ge z (by omega)) (And.intro (by rw [h3]; exact vp_in_nI (by omega) (by decide)) (And.intro h1 (nm_r (e' := up_n vr (6 * a) (ax_ga args vl hA) (k + 1)) (by rw [h2, h3, nI_clamp (by omega)]; show _ = vp_updL _ _ (ax_ga args vl hA k); rw [show ax_ga args vl hA k = vl (hA + k) from if_pos z]) (nm_r (nI_1 k) (ih (k + 1) (by omega))))))
    · exact br_t (nI_le (by omega) (by omega)) (And.intro h1 (nm_r (e' := up_n vr (6 * a) (ax_ga args vl hA) (k + 1)) (by rw [h2]; show _ = vp_updL _ _ (ax_ga args vl hA k); rw [show ax_ga args vl hA k = vb_pk 1 0 from if_neg z]; rfl) (nm_r (nI_1 k) (ih (k + 1) (by omega)))))
theorem ay_act_dl (post : SY → Prop) {a o s tm args hA h' : Nat} {rf : Int32} (ha : a < 202) (ho : o < 6) (hs : s < 6) (hA' : hA + args ≤ 2200) (hr : (rf = 0 ∧ h' = hA) ∨ (¬ rf = 0 ∧ h' + 1 = hA)) (hm : ymt (6 * o + s) = nI tm) (hp : post (yc, yt, ys, ym, no, nb, nI (a + 1), yw, nI h', nI 20, yo, yk, yp, 3, ycp, ycf, ymt, kd, ytk, ytp, ysk, yoc, yof, ybt, ybp, sv, up_n vr (6 * a) (ax_ga args vl hA) 6, ow, ed, wa, yh, vl, ypr, mo, mb)) : ∀ e k : Nat, k + e = 6 → wY_activate_99 post (nI s) (nI args) rf (nI o) yc yt ys ym no nb (nI a) yw (nI hA) (nI 20) yo yk yp ye (e + 1) (nI k) ycp ycf ymt kd ytk ytp ysk yoc yof ybt ybp sv (up_n vr (6 * a) (ax_ga args vl hA) k) ow ed wa yh vl ypr mo mb := by
  intro e
  induction e with
  | zero =>
    intro k h
    have : k = 6 := by omega
    subst this
    have L : ∀ z : Int32, z = nI h' → wY_activate_174 post (nI s) (nI o) z yc yt ys ym no nb (nI a) yw (nI hA) (nI 20) yo yk yp ye ycp ycf ymt kd ytk ytp ysk yoc yof ybt ybp sv (up_n vr (6 * a) (ax_ga args vl hA) 6) ow ed wa yh vl ypr mo mb := by
      intro z hz
      subst hz
      refine nm_r (nI_1 a) (And.intro (by rw [ay_ix6]; exact vp_in_nI (by omega) (by decide)) ?_)
      exact ay_enter_n _ hp
    refine br_t (by decide) ?_
    rcases hr with ⟨h1, h2⟩ | ⟨h1, h2⟩
    · exact br_t h1 (L _ (by rw [h2]))
    · exact br_f h1 (L _ (by rw [← h2, nI_pred]))
  | succ e ih =>
    intro k h
    refine br_f (nI_ge (b := 6) (by omega) (by decide)) ?_
    have h1 : vp_in (6 * nI a + nI k) 1212 := by rw [ay_ix6]; exact vp_in_nI (by omega) (by decide)
    have h2 : (6 * nI a + nI k).toNatClampNeg = 6 * a + k := by rw [ay_ix6]; exact nI_clamp (by omega)
    by_cases z : k < args
    · have h3 : nI hA + nI k = nI (hA + k) := nI_add _ _
      exact br_f (nI_ge z (by omega)) (And.intro (by rw [h3]; exact vp_in_nI (by omega) (by decide)) (And.intro h1 (nm_r (e' := up_n vr (6 * a) (ax_ga args vl hA) (k + 1)) (by rw [h2, h3, nI_clamp (by omega)]; show _ = vp_updL _ _ (ax_ga args vl hA k); rw [show ax_ga args vl hA k = vl (hA + k) from if_pos z]) (nm_r (nI_1 k) (ih (k + 1) (by omega))))))
    · exact br_t (nI_le (by omega) (by omega)) (And.intro h1 (nm_r (e' := up_n vr (6 * a) (ax_ga args vl hA) (k + 1)) (by rw [h2]; show _ = vp_updL _ _ (ax_ga args vl hA k); rw [show ax_ga args vl hA k = vb_pk 1 0 from if_neg z]; rfl) (nm_r (nI_1 k) (ih (k + 1) (by omega)))))
theorem ay_a35_s (post : SY → Prop) {s args rf : Int32} {self : Int64} (hp : post (yc, yt, ys, ym, no, nb, ya, yw, yv, yu, yo, yk, yp, 1, ycp, ycf, ymt, kd, ytk, ytp, ysk, yoc, yof, ybt, ybp, sv, vr, ow, ed, wa, yh, vl, ypr, mo, mb)) : wY_activate_35 post s self args rf (-1) yc yt ys ym no nb ya yw yv yu yo yk yp ye ycp ycf ymt kd ytk ytp ysk yoc yof ybt ybp sv vr ow ed wa yh vl ypr mo mb :=
  br_f (by decide) hp
theorem ay_a35_t (post : SY → Prop) {o : Nat} {s args rf : Int32} {self : Int64} (ho : o < 6) (hp : post (yc, yt, ys, ym, no, nb, ya, yw, yv, yu, yo, nI 200, yp, 2, ycp, ycf, ymt, kd, ytk, ytp, ysk, yoc, yof, ybt, ybp, sv, vr, ow, ed, wa, yh, vl, ypr, mo, mb)) : wY_activate_35 post s self args rf (nI o) yc yt ys ym no nb ya yw yv yu yo (nI 200) yp ye ycp ycf ymt kd ytk ytp ysk yoc yof ybt ybp sv vr ow ed wa yh vl ypr mo mb :=
  br_t (nI_pos' (by omega)) (ay_turn_n _ (br_t rfl hp))
theorem ay_a35_d (post : SY → Prop) {a r o s tm args hA h' : Nat} {rf : Int32} {self : Int64} (hk : r < 200) (ha : a < 202) (ho : o < 6) (hs : s < 6) (hA' : hA + args ≤ 2200) (hr : (rf = 0 ∧ h' = hA) ∨ (¬ rf = 0 ∧ h' + 1 = hA)) (hm : ymt (6 * o + s) = nI tm) (hp : post (yc, yt, ys, ym, no, nb, nI (a + 1), yw, nI h', nI 20, yo, nI (r + 1), yp, 3, ycp, ycf, ymt, kd, ytk, ytp, ysk, yoc, yof, ybt, ybp, vp_updL sv a self, up_n vr (6 * a) (ax_ga args vl hA) 6, upd ow a (nI o), upd ed a 0, wa, yh, vl, ypr, mo, mb)) : wY_activate_35 post (nI s) self (nI args) rf (nI o) yc yt ys ym no nb (nI a) yw (nI (hA + args)) (nI 20) yo (nI r) yp ye ycp ycf ymt kd ytk ytp ysk yoc yof ybt ybp sv vr ow ed wa yh vl ypr mo mb :=
  br_t (nI_pos' (by omega)) (ay_turn_f _ hk (br_f (by decide) (And.intro (vp_in_nI ha (by decide)) (nm_r (e' := vp_updL sv a self) (by rw [nI_clamp (by omega)]) (And.intro (vp_in_nI ha (by decide)) (nm_r (e' := upd ow a (nI o)) (by rw [nI_clamp (by omega)]) (And.intro (vp_in_nI ha (by decide)) (nm_r (e' := upd ed a 0) (by rw [nI_clamp (by omega), ay_n0]) (nm_r (e' := nI hA) (by rw [pk_sub (by omega)]; exact congrArg nI (by omega)) (Exists.intro 7 (ay_act_dl post ha ho hs hA' hr hm hp 6 0 rfl)))))))))))
theorem ay_a35_f (post : SY → Prop) {a r o s tm args hA h' q g d : Nat} {rf : Int32} {self : Int64} (hk : r < 200) (ha : a < 202) (hq : q + 1 < 2200) (hg : g < 20) (hd : d < 1000) (ho : o < 6) (hs : s < 6) (hA' : hA + args ≤ 2200) (hr : (rf = 0 ∧ h' = hA) ∨ (¬ rf = 0 ∧ h' + 1 = hA)) (hm : ymt (6 * o + s) = nI tm) (hp : post (yc, yt, ys, ym, no, nb, nI (a + 1), nI (q + 2), nI h', nI (g + 1), nI (ay_mx g d), nI (r + 1), yp, ye, ycp, ycf, ymt, kd, ytk, ytp, ysk, yoc, yof, ybt, ybp, vp_updL sv a self, up_n vr (6 * a) (ax_ga args vl hA) 6, upd ow a (nI o), upd ed a 0, upd (upd wa q (nI (1024 * a + 8 * 127 + 0))) (q + 1) (nI (1024 * a + 8 * tm + 0)), upd (upd yh q (nI h')) (q + 1) (nI h'), vl, ypr, mo, mb)) : wY_activate_35 post (nI s) self (nI args) rf (nI o) yc yt ys ym no nb (nI a) (nI q) (nI (hA + args)) (nI g) (nI d) (nI r) yp ye ycp ycf ymt kd ytk ytp ysk yoc yof ybt ybp sv vr ow ed wa yh vl ypr mo mb :=
  br_t (nI_pos' (by omega)) (ay_turn_f _ hk (br_f (by decide) (And.intro (vp_in_nI ha (by decide)) (nm_r (e' := vp_updL sv a self) (by rw [nI_clamp (by omega)]) (And.intro (vp_in_nI ha (by decide)) (nm_r (e' := upd ow a (nI o)) (by rw [nI_clamp (by omega)]) (And.intro (vp_in_nI ha (by decide)) (nm_r (e' := upd ed a 0) (by rw [nI_clamp (by omega), ay_n0]) (nm_r (e' := nI hA) (by rw [pk_sub (by omega)]; exact congrArg nI (by omega)) (Exists.intro 7 (ay_act_l post ha hq hg hd ho hs hA' hr hm hp 6 0 rfl)))))))))))
/-! call -/
theorem ay_call_s (post : SY → Prop) {x : Int64} {gv : Int32} {ar : Int64} (h1 : ¬ vb_T x = 3) (hp : post (yc, yt, ys, ym, no, nb, ya, yw, yv, yu, yo, yk, yp, 1, ycp, ycf, ymt, kd, ytk, ytp, ysk, yoc, yof, ybt, ybp, sv, vr, ow, ed, wa, yh, vl, ypr, mo, mb)) : wpY_callBlock post (yc, yt, ys, ym, no, nb, ya, yw, yv, yu, yo, yk, yp, ye, ycp, ycf, ymt, kd, ytk, ytp, ysk, yoc, yof, ybt, ybp, sv, vr, ow, ed, wa, yh, vl, ypr, mo, mb) x gv ar :=
  br_f h1 (br_t rfl hp)
theorem ay_call_h (post : SY → Prop) {b t : Nat} {y k gv : Int32} {ar : Int64} (hb : b < 201) (h2 : ybt b = nI t) (ht : t < 100) (h3 : ytk t = k) (hy : (k = -1 ∧ y = 0) ∨ (¬ k < 0 ∧ y = 1)) (hp : wY_callBlock_48 post (vb_pk 3 (nI b)) gv ar k y yc yt ys ym no nb ya yw yv yu yo yk yp ye ycp ycf ymt kd ytk ytp ysk yoc yof ybt ybp sv vr ow ed wa yh vl ypr mo mb) : wpY_callBlock post (yc, yt, ys, ym, no, nb, ya, yw, yv, yu, yo, yk, yp, ye, ycp, ycf, ymt, kd, ytk, ytp, ysk, yoc, yof, ybt, ybp, sv, vr, ow, ed, wa, yh, vl, ypr, mo, mb) (vb_pk 3 (nI b)) gv ar := by
  unfold wpY_callBlock
  refine ay_type _ (vC_3 _) (br_t rfl (ay_num _ (And.intro (vp_in_nI hb (by decide)) (And.intro (by rw [nI_clamp (by omega), h2]; exact vp_in_nI ht (by decide)) ?_))))
  rw [nI_clamp (n := b) (by omega), h2, nI_clamp (by omega), h3]
  rcases hy with ⟨rfl, rfl⟩ | ⟨hk, rfl⟩
  · exact br_f (by decide) (br_t (by decide) hp)
  · exact br_f (fun e => hk (by rw [e]; decide)) (br_f hk hp)
theorem ay_call_m (post : SY → Prop) {x : Int64} {y k gv : Int32} {ar : Int64} (h : ¬ y = gv) (hp : post (yc, yt, ys, ym, no, nb, ya, yw, yv, yu, yo, yk, yp, 1, ycp, ycf, ymt, kd, ytk, ytp, ysk, yoc, yof, ybt, ybp, sv, vr, ow, ed, wa, yh, vl, ypr, mo, mb)) : wY_callBlock_48 post x gv ar k y yc yt ys ym no nb ya yw yv yu yo yk yp ye ycp ycf ymt kd ytk ytp ysk yoc yof ybt ybp sv vr ow ed wa yh vl ypr mo mb :=
  br_f h hp
theorem ay_call_t (post : SY → Prop) {x : Int64} {k gv : Int32} {ar : Int64} (hp : post (yc, yt, ys, ym, no, nb, ya, yw, yv, yu, yo, nI 200, yp, 2, ycp, ycf, ymt, kd, ytk, ytp, ysk, yoc, yof, ybt, ybp, sv, vr, ow, ed, wa, yh, vl, ypr, mo, mb)) : wY_callBlock_48 post x gv ar k gv yc yt ys ym no nb ya yw yv yu yo (nI 200) yp ye ycp ycf ymt kd ytk ytp ysk yoc yof ybt ybp sv vr ow ed wa yh vl ypr mo mb :=
  br_t rfl (ay_turn_n _ (br_t rfl hp))
theorem ay_call_98 (post : SY → Prop) {b t p : Nat} {a : Int32} (hb : b < 201) (h2 : ybt b = nI t) (ht : t < 100) (h3 : ytp (3 * t) = nI p) (hp : wpY_enter post (yc, yt, ys, ym, no, nb, ya, yw, yv, yu, yo, yk, yp, ye, ycp, ycf, ymt, kd, ytk, ytp, ysk, yoc, yof, ybt, ybp, sv, vr, ow, ed, wa, yh, vl, ypr, mo, mb) 126 (nI p) a) : wY_callBlock_98 post (vb_pk 3 (nI b)) a yc yt ys ym no nb ya yw yv yu yo yk yp ye ycp ycf ymt kd ytk ytp ysk yoc yof ybt ybp sv vr ow ed wa yh vl ypr mo mb := by
  refine ay_num _ (And.intro (vp_in_nI hb (by decide)) (And.intro (by rw [nI_clamp (n := b) (by omega), h2, show (3 : Int32) = nI 3 from rfl, pk_mul]; exact vp_in_nI (by omega) (by decide)) ?_))
  rw [nI_clamp (n := b) (by omega), h2, show (3 : Int32) = nI 3 from rfl, pk_mul, nI_clamp (by omega), h3]
  exact hp
theorem ay_call_0 (post : SY → Prop) {b t p a r : Nat} {k : Int32} {ar : Int64} (hr : r < 200) (hb : b < 201) (h2 : ybt b = nI t) (ht : t < 100) (h3 : ytp (3 * t) = nI p) (h4 : ybp b = nI a) (hp : wpY_enter post (yc, yt, ys, ym, no, nb, ya, yw, yv, yu, yo, nI (r + 1), yp, ye, ycp, ycf, ymt, kd, ytk, ytp, ysk, yoc, yof, ybt, ybp, sv, vr, ow, ed, wa, yh, vl, ypr, mo, mb) 126 (nI p) (nI a)) : wY_callBlock_48 post (vb_pk 3 (nI b)) 0 ar k 0 yc yt ys ym no nb ya yw yv yu yo (nI r) yp ye ycp ycf ymt kd ytk ytp ysk yoc yof ybt ybp sv vr ow ed wa yh vl ypr mo mb :=
  br_t rfl (ay_turn_f _ hr (br_f (by decide) (ay_num _ (And.intro (vp_in_nI hb (by decide)) (nm_r (e' := nI a) (by rw [nI_clamp (by omega)]; exact h4) (br_t rfl (ay_call_98 _ hb h2 ht h3 hp)))))))
theorem ay_call_1 (post : SY → Prop) {b t p a r k : Nat} {ar : Int64} (hr : r < 200) (hb : b < 201) (h2 : ybt b = nI t) (ht : t < 100) (h3 : ytp (3 * t) = nI p) (h4 : ybp b = nI a) (ha : a < 202) (hk : k < 6) (hp : wpY_enter post (yc, yt, ys, ym, no, nb, ya, yw, yv, yu, yo, nI (r + 1), yp, ye, ycp, ycf, ymt, kd, ytk, ytp, ysk, yoc, yof, ybt, ybp, sv, vp_updL vr (6 * a + k) ar, ow, ed, wa, yh, vl, ypr, mo, mb) 126 (nI p) (nI a)) : wY_callBlock_48 post (vb_pk 3 (nI b)) 1 ar (nI k) 1 yc yt ys ym no nb ya yw yv yu yo (nI r) yp ye ycp ycf ymt kd ytk ytp ysk yoc yof ybt ybp sv vr ow ed wa yh vl ypr mo mb :=
  br_t rfl (ay_turn_f _ hr (br_f (by decide) (ay_num _ (And.intro (vp_in_nI hb (by decide)) (nm_r (e' := nI a) (by rw [nI_clamp (by omega)]; exact h4) (br_f (by decide) (And.intro (by rw [ay_ix6]; exact vp_in_nI (by omega) (by decide)) (nm_r (e' := vp_updL vr (6 * a + k) ar) (by rw [ay_ix6, nI_clamp (by omega)]) (ay_call_98 _ hb h2 ht h3 hp)))))))))
/-! operate -/
theorem ay_op_e (post : SY → Prop) {q : Nat} {i : Int32} (hq : q + 1 < 2200) (h1 : (vl q = vl (q + 1) ∧ i = 1) ∨ (¬ vl q = vl (q + 1) ∧ i = 0)) (hp : post (yc, yt, ys, ym, no, nb, ya, yw, nI (q + 1), yu, yo, yk, yp, ye, ycp, ycf, ymt, kd, ytk, ytp, ysk, yoc, yof, ybt, ybp, sv, vr, ow, ed, wa, yh, vp_updL vl q (vb_pk 2 i), ypr, mo, mb)) : wpY_operate post (yc, yt, ys, ym, no, nb, ya, yw, nI (q + 2), yu, yo, yk, yp, ye, ycp, ycf, ymt, kd, ytk, ytp, ysk, yoc, yof, ybt, ybp, sv, vr, ow, ed, wa, yh, vl, ypr, mo, mb) 24 := by
  refine nm_r (e' := nI q) (pk_sub (b := 2) (by omega)) (And.intro (vp_in_nI (by omega) (by decide)) (nm_r (e' := vl q) (by rw [nI_clamp (by omega)]) (And.intro (by rw [nI_1]; exact vp_in_nI hq (by decide)) (nm_r (e' := vl (q + 1)) (by rw [nI_1, nI_clamp (by omega)]) (br_t rfl ?_)))))
  rcases h1 with ⟨h1, rfl⟩ | ⟨h1, rfl⟩
  · exact br_t h1 (ay_hold _ (by omega) hp)
  · exact br_f h1 (ay_hold _ (by omega) hp)
theorem ay_op_s (post : SY → Prop) {q : Nat} {o : Int32} (hq : q + 1 < 2200) (ho : ¬ o = 24) (h : ¬ (vb_T (vl q) = 2 ∧ vb_T (vl (q + 1)) = 2)) (hp : post (yc, yt, ys, ym, no, nb, ya, yw, nI q, yu, yo, yk, yp, 1, ycp, ycf, ymt, kd, ytk, ytp, ysk, yoc, yof, ybt, ybp, sv, vr, ow, ed, wa, yh, vl, ypr, mo, mb)) : wpY_operate post (yc, yt, ys, ym, no, nb, ya, yw, nI (q + 2), yu, yo, yk, yp, ye, ycp, ycf, ymt, kd, ytk, ytp, ysk, yoc, yof, ybt, ybp, sv, vr, ow, ed, wa, yh, vl, ypr, mo, mb) o := by
  refine nm_r (e' := nI q) (pk_sub (b := 2) (by omega)) (And.intro (vp_in_nI (by omega) (by decide)) (nm_r (e' := vl q) (by rw [nI_clamp (by omega)]) (And.intro (by rw [nI_1]; exact vp_in_nI hq (by decide)) (nm_r (e' := vl (q + 1)) (by rw [nI_1, nI_clamp (by omega)]) (br_f ho ?_)))))
  by_cases z : vb_T (vl q) = 2
  · exact br_t z (br_f (fun e => h ⟨z, e⟩) hp)
  · exact br_f z hp
theorem ay_op_f (post : SY → Prop) {q k : Nat} (hq : q + 1 < 2200) (hk : 20 ≤ k ∧ k ≤ 23) (h1 : vb_T (vl q) = 2) (h2 : vb_T (vl (q + 1)) = 2) (hp : post (yc, yt, ys, ym, no, nb, ya, yw, nI (q + 1), yu, yo, yk, yp, ye, ycp, ycf, ymt, kd, ytk, ytp, ysk, yoc, yof, ybt, ybp, sv, vr, ow, ed, wa, yh, vp_updL vl q (vb_pk 2 (ax_r (k - 5) (vl q).toInt32 (vl (q + 1)).toInt32)), ypr, mo, mb)) : wpY_operate post (yc, yt, ys, ym, no, nb, ya, yw, nI (q + 2), yu, yo, yk, yp, ye, ycp, ycf, ymt, kd, ytk, ytp, ysk, yoc, yof, ybt, ybp, sv, vr, ow, ed, wa, yh, vl, ypr, mo, mb) (nI k) := by
  refine nm_r (e' := nI q) (pk_sub (b := 2) (by omega)) (And.intro (vp_in_nI (by omega) (by decide)) (nm_r (e' := vl q) (by rw [nI_clamp (by omega)]) (And.intro (by rw [nI_1]; exact vp_in_nI hq (by decide)) (nm_r (e' := vl (q + 1)) (by rw [nI_1, nI_clamp (by omega)]) (br_f (ay_nIne (b := 24) (by omega) (by omega) (by omega)) (br_t h1 (br_t h2 ?_)))))))
  have hc : k = 20 ∨ k = 21 ∨ k = 22 ∨ k = 23 := by omega
  rcases hc with rfl | rfl | rfl | rfl
  · exact br_t (by decide) (ay_hold _ (by omega) hp)
  · exact br_f (by decide) (br_t (by decide) (ay_hold _ (by omega) hp))
  · exact br_f (by decide) (br_f (by decide) (br_t (by decide) (ay_hold _ (by omega) hp)))
  · refine br_f (by decide) (br_f (by decide) (br_f (by decide) ?_))
    by_cases z : (vl (q + 1)).toInt32 ≤ (vl q).toInt32
    · rw [show ax_r (23 - 5) (vl q).toInt32 (vl (q + 1)).toInt32 = 0 from if_pos z] at hp
      exact br_t z (ay_hold _ (by omega) hp)
    · rw [show ax_r (23 - 5) (vl q).toInt32 (vl (q + 1)).toInt32 = 1 from if_neg z] at hp
      exact br_f z (ay_hold _ (by omega) hp)
end
end
section
section
variable {yc yt ys ym no nb ya yw yv yu yo yk yp ye : Int32} {ycp ycf ymt kd ytk ytp ysk yoc ybt ybp ow ed wa yh ypr mo mb : Nat → Int32} {yof sv vr vl : Nat → Int64}
theorem ay_f1_15 (post : SY → Prop) {t q : Nat} {a : Int32} (ht : t < 100) (h2 : kd t = 15) (hq : q < 2200) (hp : wpY_leave post (yc, yt, ys, ym, no, nb, ya, yw, nI (q + 1), yu, yo, yk, yp, ye, ycp, ycf, ymt, kd, ytk, ytp, ysk, yoc, yof, ybt, ybp, sv, vr, ow, ed, wa, yh, vl, ypr, mo, mb) a) : wpY_finishOne post (yc, yt, ys, ym, no, nb, ya, yw, nI (q + 1), yu, yo, yk, yp, ye, ycp, ycf, ymt, kd, ytk, ytp, ysk, yoc, yof, ybt, ybp, sv, vr, ow, ed, wa, yh, vl, ypr, mo, mb) (nI t) a :=
  And.intro (vp_in_nI ht (by decide)) (nm_r (e' := 15) (by rw [nI_clamp (by omega)]; exact h2) (And.intro (vp_in_nI ht (by decide)) (nm_r (e' := ytk t) (by rw [nI_clamp (by omega)]) (And.intro (by rw [nI_pred]; exact vp_in_nI hq (by decide)) (nm_r (e' := vl q) (by rw [nI_pred, nI_clamp (by omega)]) (br_f (by decide) (br_f (by decide) (br_f (by decide) (br_f (by decide) (br_t rfl hp))))))))))
theorem ay_f1_16 (post : SY → Prop) {t q : Nat} {a : Int32} (ht : t < 100) (h2 : kd t = 16) (hq : q < 2200) (hp : wpY_print post (yc, yt, ys, ym, no, nb, ya, yw, nI (q + 1), yu, yo, yk, yp, ye, ycp, ycf, ymt, kd, ytk, ytp, ysk, yoc, yof, ybt, ybp, sv, vr, ow, ed, wa, yh, vl, ypr, mo, mb)) : wpY_finishOne post (yc, yt, ys, ym, no, nb, ya, yw, nI (q + 1), yu, yo, yk, yp, ye, ycp, ycf, ymt, kd, ytk, ytp, ysk, yoc, yof, ybt, ybp, sv, vr, ow, ed, wa, yh, vl, ypr, mo, mb) (nI t) a :=
  And.intro (vp_in_nI ht (by decide)) (nm_r (e' := 16) (by rw [nI_clamp (by omega)]; exact h2) (And.intro (vp_in_nI ht (by decide)) (nm_r (e' := ytk t) (by rw [nI_clamp (by omega)]) (And.intro (by rw [nI_pred]; exact vp_in_nI hq (by decide)) (nm_r (e' := vl q) (by rw [nI_pred, nI_clamp (by omega)]) (br_f (by decide) (br_f (by decide) (br_f (by decide) (br_f (by decide) (br_f (by decide) (br_t rfl hp)))))))))))
theorem ay_f1_17 (post : SY → Prop) {t q : Nat} {a : Int32} (ht : t < 100) (h2 : kd t = 17) (hq : q < 2200) (hp : wpY_send post (yc, yt, ys, ym, no, nb, ya, yw, nI (q + 1), yu, yo, yk, yp, ye, ycp, ycf, ymt, kd, ytk, ytp, ysk, yoc, yof, ybt, ybp, sv, vr, ow, ed, wa, yh, vl, ypr, mo, mb) (ytk t) 0) : wpY_finishOne post (yc, yt, ys, ym, no, nb, ya, yw, nI (q + 1), yu, yo, yk, yp, ye, ycp, ycf, ymt, kd, ytk, ytp, ysk, yoc, yof, ybt, ybp, sv, vr, ow, ed, wa, yh, vl, ypr, mo, mb) (nI t) a :=
  And.intro (vp_in_nI ht (by decide)) (nm_r (e' := 17) (by rw [nI_clamp (by omega)]; exact h2) (And.intro (vp_in_nI ht (by decide)) (nm_r (e' := ytk t) (by rw [nI_clamp (by omega)]) (And.intro (by rw [nI_pred]; exact vp_in_nI hq (by decide)) (nm_r (e' := vl q) (by rw [nI_pred, nI_clamp (by omega)]) (br_f (by decide) (br_f (by decide) (br_f (by decide) (br_f (by decide) (br_f (by decide) (br_f (by decide) (br_t rfl hp))))))))))))
theorem ay_f1_18 (post : SY → Prop) {t q : Nat} {a : Int32} (ht : t < 100) (h2 : kd t = 18) (hq : q < 2200) (hp : wpY_sendAbove post (yc, yt, ys, ym, no, nb, ya, yw, nI (q + 1), yu, yo, yk, yp, ye, ycp, ycf, ymt, kd, ytk, ytp, ysk, yoc, yof, ybt, ybp, sv, vr, ow, ed, wa, yh, vl, ypr, mo, mb) (ytk t) 1 a) : wpY_finishOne post (yc, yt, ys, ym, no, nb, ya, yw, nI (q + 1), yu, yo, yk, yp, ye, ycp, ycf, ymt, kd, ytk, ytp, ysk, yoc, yof, ybt, ybp, sv, vr, ow, ed, wa, yh, vl, ypr, mo, mb) (nI t) a :=
  And.intro (vp_in_nI ht (by decide)) (nm_r (e' := 18) (by rw [nI_clamp (by omega)]; exact h2) (And.intro (vp_in_nI ht (by decide)) (nm_r (e' := ytk t) (by rw [nI_clamp (by omega)]) (And.intro (by rw [nI_pred]; exact vp_in_nI hq (by decide)) (nm_r (e' := vl q) (by rw [nI_pred, nI_clamp (by omega)]) (br_f (by decide) (br_f (by decide) (br_f (by decide) (br_f (by decide) (br_f (by decide) (br_f (by decide) (br_f (by decide) hp))))))))))))
theorem ay_f1_10 (post : SY → Prop) {t q a j : Nat} (ht : t < 100) (h2 : kd t = 10) (hq : q < 2200) (h3 : ytk t = nI j) (hj : j < 6) (ha : a < 202) (hp : post (yc, yt, ys, ym, no, nb, ya, yw, nI (q + 1), yu, yo, yk, yp, ye, ycp, ycf, ymt, kd, ytk, ytp, ysk, yoc, yof, ybt, ybp, sv, vp_updL vr (6 * a + j) (vl q), ow, ed, wa, yh, vl, ypr, mo, mb)) : wpY_finishOne post (yc, yt, ys, ym, no, nb, ya, yw, nI (q + 1), yu, yo, yk, yp, ye, ycp, ycf, ymt, kd, ytk, ytp, ysk, yoc, yof, ybt, ybp, sv, vr, ow, ed, wa, yh, vl, ypr, mo, mb) (nI t) (nI a) :=
  And.intro (vp_in_nI ht (by decide)) (nm_r (e' := 10) (by rw [nI_clamp (by omega)]; exact h2) (And.intro (vp_in_nI ht (by decide)) (nm_r (e' := nI j) (by rw [nI_clamp (by omega)]; exact h3) (And.intro (by rw [nI_pred]; exact vp_in_nI hq (by decide)) (nm_r (e' := vl q) (by rw [nI_pred, nI_clamp (by omega)]) (br_t rfl (And.intro (by rw [ay_ix6]; exact vp_in_nI (by omega) (by decide)) (nm_r (e' := vp_updL vr (6 * a + j) (vl q)) (by rw [ay_ix6, nI_clamp (by omega)]) hp))))))))
theorem ay_f1_11s (post : SY → Prop) {t q : Nat} {a : Int32} (ht : t < 100) (h2 : kd t = 11) (hq : q < 2200) (h : ∀ Q : Int32 → Prop, Q (-1) → wpY_fieldPlace Q (yc, yt, ys, ym, no, nb, ya, yw, nI (q + 1), yu, yo, yk, yp, ye, ycp, ycf, ymt, kd, ytk, ytp, ysk, yoc, yof, ybt, ybp, sv, vr, ow, ed, wa, yh, vl, ypr, mo, mb) (ytk t) a) (hp : post (yc, yt, ys, ym, no, nb, ya, yw, nI (q + 1), yu, yo, yk, yp, 1, ycp, ycf, ymt, kd, ytk, ytp, ysk, yoc, yof, ybt, ybp, sv, vr, ow, ed, wa, yh, vl, ypr, mo, mb)) : wpY_finishOne post (yc, yt, ys, ym, no, nb, ya, yw, nI (q + 1), yu, yo, yk, yp, ye, ycp, ycf, ymt, kd, ytk, ytp, ysk, yoc, yof, ybt, ybp, sv, vr, ow, ed, wa, yh, vl, ypr, mo, mb) (nI t) a :=
  And.intro (vp_in_nI ht (by decide)) (nm_r (e' := 11) (by rw [nI_clamp (by omega)]; exact h2) (And.intro (vp_in_nI ht (by decide)) (nm_r (e' := ytk t) (by rw [nI_clamp (by omega)]) (And.intro (by rw [nI_pred]; exact vp_in_nI hq (by decide)) (nm_r (e' := vl q) (by rw [nI_pred, nI_clamp (by omega)]) (br_f (by decide) (br_t rfl (h _ (br_f (by decide) (br_t (by decide) hp)))))))))) 
theorem ay_f1_11o (post : SY → Prop) {t q i : Nat} {a : Int32} (ht : t < 100) (h2 : kd t = 11) (hq : q < 2200) (hi : i < 804) (h : ∀ Q : Int32 → Prop, Q (nI i) → wpY_fieldPlace Q (yc, yt, ys, ym, no, nb, ya, yw, nI (q + 1), yu, yo, yk, yp, ye, ycp, ycf, ymt, kd, ytk, ytp, ysk, yoc, yof, ybt, ybp, sv, vr, ow, ed, wa, yh, vl, ypr, mo, mb) (ytk t) a) (hp : post (yc, yt, ys, ym, no, nb, ya, yw, nI (q + 1), yu, yo, yk, yp, ye, ycp, ycf, ymt, kd, ytk, ytp, ysk, yoc, vp_updL yof i (vl q), ybt, ybp, sv, vr, ow, ed, wa, yh, vl, ypr, mo, mb)) : wpY_finishOne post (yc, yt, ys, ym, no, nb, ya, yw, nI (q + 1), yu, yo, yk, yp, ye, ycp, ycf, ymt, kd, ytk, ytp, ysk, yoc, yof, ybt, ybp, sv, vr, ow, ed, wa, yh, vl, ypr, mo, mb) (nI t) a :=
  And.intro (vp_in_nI ht (by decide)) (nm_r (e' := 11) (by rw [nI_clamp (by omega)]; exact h2) (And.intro (vp_in_nI ht (by decide)) (nm_r (e' := ytk t) (by rw [nI_clamp (by omega)]) (And.intro (by rw [nI_pred]; exact vp_in_nI hq (by decide)) (nm_r (e' := vl q) (by rw [nI_pred, nI_clamp (by omega)]) (br_f (by decide) (br_t rfl (h _ (br_t (nI_pos' (by omega)) (br_f (nI_pos (by omega)) (And.intro (vp_in_nI hi (by decide)) (nm_r (e' := vp_updL yof i (vl q)) (by rw [nI_clamp (by omega)]) hp))))))))))))
theorem ay_f1_12 (post : SY → Prop) {t q : Nat} {a r : Int32} (ht : t < 100) (h2 : kd t = 12) (hq : q < 2200) (hr : r = 0 ∨ r = 1) (h : ∀ Q : Int32 → Prop, Q r → wpY_isKind Q (yc, yt, ys, ym, no, nb, ya, yw, nI (q + 1), yu, yo, yk, yp, ye, ycp, ycf, ymt, kd, ytk, ytp, ysk, yoc, yof, ybt, ybp, sv, vr, ow, ed, wa, yh, vl, ypr, mo, mb) (vl q) (ytk t)) (hp : post (yc, yt, ys, ym, no, nb, ya, yw, nI (q + 1), yu, yo, yk, yp, ye, ycp, ycf, ymt, kd, ytk, ytp, ysk, yoc, yof, ybt, ybp, sv, vr, ow, ed, wa, yh, vp_updL vl q (vb_pk 2 r), ypr, mo, mb)) : wpY_finishOne post (yc, yt, ys, ym, no, nb, ya, yw, nI (q + 1), yu, yo, yk, yp, ye, ycp, ycf, ymt, kd, ytk, ytp, ysk, yoc, yof, ybt, ybp, sv, vr, ow, ed, wa, yh, vl, ypr, mo, mb) (nI t) a :=
  And.intro (vp_in_nI ht (by decide)) (nm_r (e' := 12) (by rw [nI_clamp (by omega)]; exact h2) (And.intro (vp_in_nI ht (by decide)) (nm_r (e' := ytk t) (by rw [nI_clamp (by omega)]) (And.intro (by rw [nI_pred]; exact vp_in_nI hq (by decide)) (nm_r (e' := vl q) (by rw [nI_pred, nI_clamp (by omega)]) (br_f (by decide) (br_f (by decide) (br_t rfl (h _ (by
    rcases hr with rfl | rfl
    · exact br_t rfl (And.intro (by rw [nI_pred]; exact vp_in_nI hq (by decide)) (nm_r (e' := vp_updL vl q (vb_pk 2 0)) (by rw [nI_pred, nI_clamp (by omega)]; rfl) hp))
    · exact br_f (by decide) (And.intro (by rw [nI_pred]; exact vp_in_nI hq (by decide)) (nm_r (e' := vp_updL vl q (vb_pk 2 1)) (by rw [nI_pred, nI_clamp (by omega)]; rfl) hp))))))))))))
theorem ay_f1_14 (post : SY → Prop) {t q : Nat} {a : Int32} (ht : t < 100) (h2 : kd t = 14) (hq : q < 2200) (hp : wpY_callBlock post (yc, yt, ys, ym, no, nb, ya, yw, nI q, yu, yo, yk, yp, ye, ycp, ycf, ymt, kd, ytk, ytp, ysk, yoc, yof, ybt, ybp, sv, vr, ow, ed, wa, yh, vl, ypr, mo, mb) (vl q) 0 0) : wpY_finishOne post (yc, yt, ys, ym, no, nb, ya, yw, nI (q + 1), yu, yo, yk, yp, ye, ycp, ycf, ymt, kd, ytk, ytp, ysk, yoc, yof, ybt, ybp, sv, vr, ow, ed, wa, yh, vl, ypr, mo, mb) (nI t) a :=
  And.intro (vp_in_nI ht (by decide)) (nm_r (e' := 14) (by rw [nI_clamp (by omega)]; exact h2) (And.intro (vp_in_nI ht (by decide)) (nm_r (e' := ytk t) (by rw [nI_clamp (by omega)]) (And.intro (by rw [nI_pred]; exact vp_in_nI hq (by decide)) (nm_r (e' := vl q) (by rw [nI_pred, nI_clamp (by omega)]) (br_f (by decide) (br_f (by decide) (br_f (by decide) (br_t rfl (nm_r (nI_pred q) hp))))))))))
/-! loop -/
theorem ay_lp_b (post : SY → Prop) {t q w a p : Nat} (ht : t < 100) (hw : w + 1 < 2200) (h1 : ytp (3 * t) = nI p) (hp : post (yc, yt, ys, ym, no, nb, ya, nI (w + 2), nI q, yu, yo, yk, yp, ye, ycp, ycf, ymt, kd, ytk, ytp, ysk, yoc, yof, ybt, ybp, sv, vr, ow, ed, upd (upd wa w (nI (1024 * a + 8 * t + 1))) (w + 1) (nI (1024 * a + 8 * p + 0)), upd (upd yh w (nI q)) (w + 1) (nI q), vl, ypr, mo, mb)) : wpY_goOnLoop post (yc, yt, ys, ym, no, nb, ya, nI w, nI (q + 1), yu, yo, yk, yp, ye, ycp, ycf, ymt, kd, ytk, ytp, ysk, yoc, yof, ybt, ybp, sv, vr, ow, ed, wa, yh, vl, ypr, mo, mb) (nI t) 2 (nI a) :=
  nm_r (nI_pred q) (br_t rfl (ay_wait (s := 1) _ (by omega) (And.intro (by rw [show (3 : Int32) = nI 3 from rfl, pk_mul]; exact vp_in_nI (by omega) (by decide)) (by rw [show (3 : Int32) = nI 3 from rfl, pk_mul, nI_clamp (by omega), h1]; exact ay_wait (s := 0) _ hw hp))))
theorem ay_lp_s (post : SY → Prop) {q : Nat} {t a : Int32} (hq : q < 2200) (h2 : ¬ vb_T (vl q) = 2) (hp : post (yc, yt, ys, ym, no, nb, ya, yw, nI q, yu, yo, yk, yp, 1, ycp, ycf, ymt, kd, ytk, ytp, ysk, yoc, yof, ybt, ybp, sv, vr, ow, ed, wa, yh, vl, ypr, mo, mb)) : wpY_goOnLoop post (yc, yt, ys, ym, no, nb, ya, yw, nI (q + 1), yu, yo, yk, yp, ye, ycp, ycf, ymt, kd, ytk, ytp, ysk, yoc, yof, ybt, ybp, sv, vr, ow, ed, wa, yh, vl, ypr, mo, mb) t 1 a :=
  nm_r (nI_pred q) (br_f (by decide) (And.intro (vp_in_nI hq (by decide)) (by rw [nI_clamp (by omega)]; exact br_f h2 hp)))
theorem ay_lp_0 (post : SY → Prop) {q : Nat} {t a : Int32} (hq : q < 2200) (h2 : vb_T (vl q) = 2) (h3 : (vl q).toInt32 = 0) (hp : post (yc, yt, ys, ym, no, nb, ya, yw, nI (q + 1), yu, yo, yk, yp, ye, ycp, ycf, ymt, kd, ytk, ytp, ysk, yoc, yof, ybt, ybp, sv, vr, ow, ed, wa, yh, vp_updL vl q (vb_pk 1 0), ypr, mo, mb)) : wpY_goOnLoop post (yc, yt, ys, ym, no, nb, ya, yw, nI (q + 1), yu, yo, yk, yp, ye, ycp, ycf, ymt, kd, ytk, ytp, ysk, yoc, yof, ybt, ybp, sv, vr, ow, ed, wa, yh, vl, ypr, mo, mb) t 1 a :=
  nm_r (nI_pred q) (br_f (by decide) (And.intro (vp_in_nI hq (by decide)) (by rw [nI_clamp (by omega)]; exact br_t h2 (And.intro (vp_in_nI hq (by decide)) (br_t h3 (ay_thing _ (ay_hold _ hq hp)))))))
theorem ay_lp_t (post : SY → Prop) {q : Nat} {t a : Int32} (hq : q < 2200) (h2 : vb_T (vl q) = 2) (h3 : ¬ (vl q).toInt32 = 0) (hp : post (yc, yt, ys, ym, no, nb, ya, yw, nI q, yu, yo, nI 200, yp, 2, ycp, ycf, ymt, kd, ytk, ytp, ysk, yoc, yof, ybt, ybp, sv, vr, ow, ed, wa, yh, vl, ypr, mo, mb)) : wpY_goOnLoop post (yc, yt, ys, ym, no, nb, ya, yw, nI (q + 1), yu, yo, nI 200, yp, ye, ycp, ycf, ymt, kd, ytk, ytp, ysk, yoc, yof, ybt, ybp, sv, vr, ow, ed, wa, yh, vl, ypr, mo, mb) t 1 a :=
  nm_r (nI_pred q) (br_f (by decide) (And.intro (vp_in_nI hq (by decide)) (by rw [nI_clamp (by omega)]; exact br_t h2 (And.intro (vp_in_nI hq (by decide)) (br_f h3 (ay_turn_n _ (br_t rfl hp)))))))
theorem ay_lp_f (post : SY → Prop) {t q w a p r : Nat} (ht : t < 100) (hq : q < 2200) (hw : w + 1 < 2200) (hr : r < 200) (h1 : ytp (3 * t + 1) = nI p) (h2 : vb_T (vl q) = 2) (h3 : ¬ (vl q).toInt32 = 0) (hp : post (yc, yt, ys, ym, no, nb, ya, nI (w + 2), nI q, yu, yo, nI (r + 1), yp, ye, ycp, ycf, ymt, kd, ytk, ytp, ysk, yoc, yof, ybt, ybp, sv, vr, ow, ed, upd (upd wa w (nI (1024 * a + 8 * t + 2))) (w + 1) (nI (1024 * a + 8 * p + 0)), upd (upd yh w (nI q)) (w + 1) (nI q), vl, ypr, mo, mb)) : wpY_goOnLoop post (yc, yt, ys, ym, no, nb, ya, nI w, nI (q + 1), yu, yo, nI r, yp, ye, ycp, ycf, ymt, kd, ytk, ytp, ysk, yoc, yof, ybt, ybp, sv, vr, ow, ed, wa, yh, vl, ypr, mo, mb) (nI t) 1 (nI a) :=
  nm_r (nI_pred q) (br_f (by decide) (And.intro (vp_in_nI hq (by decide)) (by rw [nI_clamp (by omega)]; exact br_t h2 (And.intro (vp_in_nI hq (by decide)) (br_f h3 (ay_turn_f _ hr (br_f (by decide) (ay_wait (s := 2) _ (by omega) (And.intro (by rw [show (3 : Int32) = nI 3 from rfl, pk_mul, nI_1]; exact vp_in_nI (by omega) (by decide)) (by rw [show (3 : Int32) = nI 3 from rfl, pk_mul, nI_1, nI_clamp (by omega), h1]; exact ay_wait (s := 0) _ hw hp)))))))))) 
/-! terms of two parts -/
theorem ay_t_26 (post : SY → Prop) {t : Nat} {s a : Int32} (ht : t < 100) (h2 : kd t = 26) (hp : wpY_goOnLoop post (yc, yt, ys, ym, no, nb, ya, yw, yv, yu, yo, yk, yp, ye, ycp, ycf, ymt, kd, ytk, ytp, ysk, yoc, yof, ybt, ybp, sv, vr, ow, ed, wa, yh, vl, ypr, mo, mb) (nI t) s a) : wpY_goOnTwo post (yc, yt, ys, ym, no, nb, ya, yw, yv, yu, yo, yk, yp, ye, ycp, ycf, ymt, kd, ytk, ytp, ysk, yoc, yof, ybt, ybp, sv, vr, ow, ed, wa, yh, vl, ypr, mo, mb) (nI t) s a :=
  And.intro (vp_in_nI ht (by decide)) (nm_r (e' := 26) (by rw [nI_clamp (by omega)]; exact h2) (br_t rfl hp))
theorem ay_t_25 (post : SY → Prop) {t q w a p : Nat} {s : Int32} (ht : t < 100) (h2 : kd t = 25) (hw : w < 2200) (h1 : ytp (3 * t + 1) = nI p) (hp : post (yc, yt, ys, ym, no, nb, ya, nI (w + 1), nI q, yu, yo, yk, yp, ye, ycp, ycf, ymt, kd, ytk, ytp, ysk, yoc, yof, ybt, ybp, sv, vr, ow, ed, upd wa w (nI (1024 * a + 8 * p + 0)), upd yh w (nI q), vl, ypr, mo, mb)) : wpY_goOnTwo post (yc, yt, ys, ym, no, nb, ya, nI w, nI (q + 1), yu, yo, yk, yp, ye, ycp, ycf, ymt, kd, ytk, ytp, ysk, yoc, yof, ybt, ybp, sv, vr, ow, ed, wa, yh, vl, ypr, mo, mb) (nI t) s (nI a) :=
  And.intro (vp_in_nI ht (by decide)) (nm_r (e' := 25) (by rw [nI_clamp (by omega)]; exact h2) (br_f (by decide) (br_t rfl (nm_r (nI_pred q) (And.intro (by rw [show (3 : Int32) = nI 3 from rfl, pk_mul, nI_1]; exact vp_in_nI (by omega) (by decide)) (by rw [show (3 : Int32) = nI 3 from rfl, pk_mul, nI_1, nI_clamp (by omega), h1]; exact ay_wait (s := 0) _ hw hp)))))) 
theorem ay_t_1 (post : SY → Prop) {t k w a p : Nat} (ht : t < 100) (h2 : kd t = nI k) (hk : 20 ≤ k) (hk3 : k < 30) (hk5 : k ≠ 25) (hk6 : k ≠ 26) (hw : w + 1 < 2200) (h1 : ytp (3 * t + 1) = nI p) (hp : post (yc, yt, ys, ym, no, nb, ya, nI (w + 2), yv, yu, yo, yk, yp, ye, ycp, ycf, ymt, kd, ytk, ytp, ysk, yoc, yof, ybt, ybp, sv, vr, ow, ed, upd (upd wa w (nI (1024 * a + 8 * t + 2))) (w + 1) (nI (1024 * a + 8 * p + 0)), upd (upd yh w yv) (w + 1) yv, vl, ypr, mo, mb)) : wpY_goOnTwo post (yc, yt, ys, ym, no, nb, ya, nI w, yv, yu, yo, yk, yp, ye, ycp, ycf, ymt, kd, ytk, ytp, ysk, yoc, yof, ybt, ybp, sv, vr, ow, ed, wa, yh, vl, ypr, mo, mb) (nI t) 1 (nI a) :=
  And.intro (vp_in_nI ht (by decide)) (nm_r (e' := nI k) (by rw [nI_clamp (by omega)]; exact h2) (br_f (ay_nIne (b := 26) (by omega) (by omega) (by omega)) (br_f (ay_nIne (b := 25) (by omega) (by omega) (by omega)) (br_t rfl (ay_wait (s := 2) _ (by omega) (And.intro (by rw [show (3 : Int32) = nI 3 from rfl, pk_mul, nI_1]; exact vp_in_nI (by omega) (by decide)) (by rw [show (3 : Int32) = nI 3 from rfl, pk_mul, nI_1, nI_clamp (by omega), h1]; exact ay_wait (s := 0) _ hw hp)))))))
theorem ay_t_27 (post : SY → Prop) {t q : Nat} {a : Int32} (ht : t < 100) (h2 : kd t = 27) (hq : q + 1 < 2200) (hp : wpY_callBlock post (yc, yt, ys, ym, no, nb, ya, yw, nI q, yu, yo, yk, yp, ye, ycp, ycf, ymt, kd, ytk, ytp, ysk, yoc, yof, ybt, ybp, sv, vr, ow, ed, wa, yh, vl, ypr, mo, mb) (vl q) 1 (vl (q + 1))) : wpY_goOnTwo post (yc, yt, ys, ym, no, nb, ya, yw, nI (q + 2), yu, yo, yk, yp, ye, ycp, ycf, ymt, kd, ytk, ytp, ysk, yoc, yof, ybt, ybp, sv, vr, ow, ed, wa, yh, vl, ypr, mo, mb) (nI t) 2 a :=
  And.intro (vp_in_nI ht (by decide)) (nm_r (e' := 27) (by rw [nI_clamp (by omega)]; exact h2) (br_f (by decide) (br_f (by decide) (br_f (by decide) (br_t rfl (nm_r (e' := nI q) (pk_sub (b := 2) (by omega)) (And.intro (vp_in_nI (by omega) (by decide)) (And.intro (by rw [nI_1]; exact vp_in_nI hq (by decide)) (by rw [nI_1, nI_clamp (by omega), nI_clamp (by omega)]; exact hp)))))))))
theorem ay_t_28 (post : SY → Prop) {t : Nat} {a : Int32} (ht : t < 100) (h2 : kd t = 28) (hp : wpY_send post (yc, yt, ys, ym, no, nb, ya, yw, yv, yu, yo, yk, yp, ye, ycp, ycf, ymt, kd, ytk, ytp, ysk, yoc, yof, ybt, ybp, sv, vr, ow, ed, wa, yh, vl, ypr, mo, mb) (ytk t) 1) : wpY_goOnTwo post (yc, yt, ys, ym, no, nb, ya, yw, yv, yu, yo, yk, yp, ye, ycp, ycf, ymt, kd, ytk, ytp, ysk, yoc, yof, ybt, ybp, sv, vr, ow, ed, wa, yh, vl, ypr, mo, mb) (nI t) 2 a :=
  And.intro (vp_in_nI ht (by decide)) (nm_r (e' := 28) (by rw [nI_clamp (by omega)]; exact h2) (br_f (by decide) (br_f (by decide) (br_f (by decide) (br_f (by decide) (br_t rfl (And.intro (vp_in_nI ht (by decide)) (by rw [nI_clamp (by omega)]; exact hp))))))))
theorem ay_t_29 (post : SY → Prop) {t : Nat} {a : Int32} (ht : t < 100) (h2 : kd t = 29) (hp : wpY_sendAbove post (yc, yt, ys, ym, no, nb, ya, yw, yv, yu, yo, yk, yp, ye, ycp, ycf, ymt, kd, ytk, ytp, ysk, yoc, yof, ybt, ybp, sv, vr, ow, ed, wa, yh, vl, ypr, mo, mb) (ytk t) 2 a) : wpY_goOnTwo post (yc, yt, ys, ym, no, nb, ya, yw, yv, yu, yo, yk, yp, ye, ycp, ycf, ymt, kd, ytk, ytp, ysk, yoc, yof, ybt, ybp, sv, vr, ow, ed, wa, yh, vl, ypr, mo, mb) (nI t) 2 a :=
  And.intro (vp_in_nI ht (by decide)) (nm_r (e' := 29) (by rw [nI_clamp (by omega)]; exact h2) (br_f (by decide) (br_f (by decide) (br_f (by decide) (br_f (by decide) (br_f (by decide) (br_t rfl (And.intro (vp_in_nI ht (by decide)) (by rw [nI_clamp (by omega)]; exact hp)))))))))
theorem ay_t_op (post : SY → Prop) {t k : Nat} {a : Int32} (ht : t < 100) (h2 : kd t = nI k) (hk : 20 ≤ k) (hk3 : k ≤ 24) (hp : wpY_operate post (yc, yt, ys, ym, no, nb, ya, yw, yv, yu, yo, yk, yp, ye, ycp, ycf, ymt, kd, ytk, ytp, ysk, yoc, yof, ybt, ybp, sv, vr, ow, ed, wa, yh, vl, ypr, mo, mb) (nI k)) : wpY_goOnTwo post (yc, yt, ys, ym, no, nb, ya, yw, yv, yu, yo, yk, yp, ye, ycp, ycf, ymt, kd, ytk, ytp, ysk, yoc, yof, ybt, ybp, sv, vr, ow, ed, wa, yh, vl, ypr, mo, mb) (nI t) 2 a :=
  And.intro (vp_in_nI ht (by decide)) (nm_r (e' := nI k) (by rw [nI_clamp (by omega)]; exact h2) (br_f (ay_nIne (b := 26) (by omega) (by omega) (by omega)) (br_f (ay_nIne (b := 25) (by omega) (by omega) (by omega)) (br_f (by decide) (br_f (ay_nIne (b := 27) (by omega) (by omega) (by omega)) (br_f (ay_nIne (b := 28) (by omega) (by omega) (by omega)) (br_f (ay_nIne (b := 29) (by omega) (by omega) (by omega)) hp)))))))
/-! terms of three parts -/
theorem ay_h_s (post : SY → Prop) {t q w a p d : Nat} {s : Int32} (ht : t < 100) (h2 : kd t = 30) (hq : q < 2200) (hw : w < 2200) (hd : ((vl q).toInt32 = 0 ∧ d = 2) ∨ (¬ (vl q).toInt32 = 0 ∧ d = 1)) (h1 : ¬ vb_T (vl q) = 2) (h3 : ytp (3 * t + d) = nI p) (hp : post (yc, yt, ys, ym, no, nb, ya, nI (w + 1), nI q, yu, yo, yk, yp, 1, ycp, ycf, ymt, kd, ytk, ytp, ysk, yoc, yof, ybt, ybp, sv, vr, ow, ed, upd wa w (nI (1024 * a + 8 * p + 0)), upd yh w (nI q), vl, ypr, mo, mb)) : wpY_goOnThree post (yc, yt, ys, ym, no, nb, ya, nI w, nI (q + 1), yu, yo, yk, yp, ye, ycp, ycf, ymt, kd, ytk, ytp, ysk, yoc, yof, ybt, ybp, sv, vr, ow, ed, wa, yh, vl, ypr, mo, mb) (nI t) s (nI a) := by
  refine And.intro (vp_in_nI ht (by decide)) (br_t (by rw [nI_clamp (by omega)]; exact h2) (nm_r (nI_pred q) (And.intro (vp_in_nI hq (by decide)) ?_)))
  rw [nI_clamp (by omega)]
  rcases hd with ⟨hd, rfl⟩ | ⟨hd, rfl⟩
  · exact br_t hd (And.intro (vp_in_nI hq (by decide)) (by rw [nI_clamp (by omega)]; exact br_f h1 (br_t rfl (And.intro (by rw [show (3 : Int32) = nI 3 from rfl, pk_mul, show (2 : Int32) = nI 2 from rfl, nI_add]; exact vp_in_nI (by omega) (by decide)) (by rw [show (3 : Int32) = nI 3 from rfl, pk_mul, show (2 : Int32) = nI 2 from rfl, nI_add, nI_clamp (by omega), h3]; exact ay_wait (s := 0) _ hw hp)))))
  · exact br_f hd (And.intro (vp_in_nI hq (by decide)) (by rw [nI_clamp (by omega)]; exact br_f h1 (br_f (by decide) (And.intro (by rw [show (3 : Int32) = nI 3 from rfl, pk_mul, nI_1]; exact vp_in_nI (by omega) (by decide)) (by rw [show (3 : Int32) = nI 3 from rfl, pk_mul, nI_1, nI_clamp (by omega), h3]; exact ay_wait (s := 0) _ hw hp)))))
theorem ay_h_f (post : SY → Prop) {t q w a p d : Nat} {s : Int32} (ht : t < 100) (h2 : kd t = 30) (hq : q < 2200) (hw : w < 2200) (hd : ((vl q).toInt32 = 0 ∧ d = 2) ∨ (¬ (vl q).toInt32 = 0 ∧ d = 1)) (h1 : vb_T (vl q) = 2) (h3 : ytp (3 * t + d) = nI p) (hp : post (yc, yt, ys, ym, no, nb, ya, nI (w + 1), nI q, yu, yo, yk, yp, ye, ycp, ycf, ymt, kd, ytk, ytp, ysk, yoc, yof, ybt, ybp, sv, vr, ow, ed, upd wa w (nI (1024 * a + 8 * p + 0)), upd yh w (nI q), vl, ypr, mo, mb)) : wpY_goOnThree post (yc, yt, ys, ym, no, nb, ya, nI w, nI (q + 1), yu, yo, yk, yp, ye, ycp, ycf, ymt, kd, ytk, ytp, ysk, yoc, yof, ybt, ybp, sv, vr, ow, ed, wa, yh, vl, ypr, mo, mb) (nI t) s (nI a) := by
  refine And.intro (vp_in_nI ht (by decide)) (br_t (by rw [nI_clamp (by omega)]; exact h2) (nm_r (nI_pred q) (And.intro (vp_in_nI hq (by decide)) ?_)))
  rw [nI_clamp (by omega)]
  rcases hd with ⟨hd, rfl⟩ | ⟨hd, rfl⟩
  · exact br_t hd (And.intro (vp_in_nI hq (by decide)) (by rw [nI_clamp (by omega)]; exact br_t h1 (br_t rfl (And.intro (by rw [show (3 : Int32) = nI 3 from rfl, pk_mul, show (2 : Int32) = nI 2 from rfl, nI_add]; exact vp_in_nI (by omega) (by decide)) (by rw [show (3 : Int32) = nI 3 from rfl, pk_mul, show (2 : Int32) = nI 2 from rfl, nI_add, nI_clamp (by omega), h3]; exact ay_wait (s := 0) _ hw hp)))))
  · exact br_f hd (And.intro (vp_in_nI hq (by decide)) (by rw [nI_clamp (by omega)]; exact br_t h1 (br_f (by decide) (And.intro (by rw [show (3 : Int32) = nI 3 from rfl, pk_mul, nI_1]; exact vp_in_nI (by omega) (by decide)) (by rw [show (3 : Int32) = nI 3 from rfl, pk_mul, nI_1, nI_clamp (by omega), h3]; exact ay_wait (s := 0) _ hw hp)))))
theorem ay_h_n (post : SY → Prop) {t w a p s : Nat} (ht : t < 100) (h2 : kd t = 31) (hs : s < 3) (hw : w + 1 < 2200) (h3 : ytp (3 * t + s) = nI p) (hp : post (yc, yt, ys, ym, no, nb, ya, nI (w + 2), yv, yu, yo, yk, yp, ye, ycp, ycf, ymt, kd, ytk, ytp, ysk, yoc, yof, ybt, ybp, sv, vr, ow, ed, upd (upd wa w (nI (1024 * a + 8 * t + (s + 1)))) (w + 1) (nI (1024 * a + 8 * p + 0)), upd (upd yh w yv) (w + 1) yv, vl, ypr, mo, mb)) : wpY_goOnThree post (yc, yt, ys, ym, no, nb, ya, nI w, yv, yu, yo, yk, yp, ye, ycp, ycf, ymt, kd, ytk, ytp, ysk, yoc, yof, ybt, ybp, sv, vr, ow, ed, wa, yh, vl, ypr, mo, mb) (nI t) (nI s) (nI a) :=
  And.intro (vp_in_nI ht (by decide)) (br_f (by rw [nI_clamp (by omega), h2]; decide) (br_f (nI_ge (b := 3) hs (by decide)) (by rw [nI_1]; exact ay_wait (s := s + 1) _ (by omega) (And.intro (by rw [show (3 : Int32) = nI 3 from rfl, pk_mul, nI_add]; exact vp_in_nI (by omega) (by decide)) (by rw [show (3 : Int32) = nI 3 from rfl, pk_mul, nI_add, nI_clamp (by omega), h3]; exact ay_wait (s := 0) _ hw hp)))))
theorem ay_h_31 (post : SY → Prop) {t : Nat} {a : Int32} (ht : t < 100) (h2 : kd t = 31) (hp : wpY_send post (yc, yt, ys, ym, no, nb, ya, yw, yv, yu, yo, yk, yp, ye, ycp, ycf, ymt, kd, ytk, ytp, ysk, yoc, yof, ybt, ybp, sv, vr, ow, ed, wa, yh, vl, ypr, mo, mb) (ytk t) 2) : wpY_goOnThree post (yc, yt, ys, ym, no, nb, ya, yw, yv, yu, yo, yk, yp, ye, ycp, ycf, ymt, kd, ytk, ytp, ysk, yoc, yof, ybt, ybp, sv, vr, ow, ed, wa, yh, vl, ypr, mo, mb) (nI t) 3 a :=
  And.intro (vp_in_nI ht (by decide)) (br_f (by rw [nI_clamp (by omega), h2]; decide) (br_t (by decide) (And.intro (vp_in_nI ht (by decide)) (by rw [nI_clamp (by omega)]; exact hp))))
end
end
section
section
variable {nc nt ns mn n na f ws vs en pc tc dc : Int32} {rs : Int64} {cp cf mt op tk tp fp sk oc bt ba rd ac af fa fw fv wt wd pr mc : Nat → Int32} {of sl wv : Nat → Int64}
variable {yc yt ys ym no nb ya yw yv yu yo yk yp ye : Int32} {ycp ycf ymt kd ytk ytp ysk yoc ybt ybp ow ed wa yh ypr mo mb : Nat → Int32} {yof sv vr vl : Nat → Int64}
variable {NC NT : Nat}
theorem lk_x1 (post : Int32 → Prop) {s i : Int32} {k : Nat} (hp : post (-1)) : wX_holderOf_5 post s nc nt ns mn n na f ws vs en rs pc tc dc cp cf mt op tk tp fp sk oc of bt ba rd sl ac af fa fw fv wt wd wv pr mc (k + 1) (-1) i := by
  by_cases h : 6 ≤ i
  · exact br_t h hp
  · exact br_f h (br_t rfl hp)
theorem lk_h (C : ∀ c, c < NC → pg_C NT c cp cf mt) (hN : NC ≤ 6) (hT : NT ≤ 100) {s : Nat} (hs : s < 6) {args rf : Int32} {self : Int64} : ∀ b c i : Nat, c < b → c < NC → i + c < 6 → ∃ h : Int32, (h = -1 ∨ ∃ o tm, o < NC ∧ tm < NT ∧ h = nI o ∧ mt (6 * o + s) = nI tm) ∧ (∀ (post : Int32 → Prop) (m : Nat), c + 1 < m → post h → wX_holderOf_5 post (nI s) nc nt ns mn n na f ws vs en rs pc tc dc cp cf mt op tk tp fp sk oc of bt ba rd sl ac af fa fw fv wt wd wv pr mc m (nI c) (nI i)) ∧ (∀ (post : SY → Prop) (m : Nat), c + 1 < m → wY_activate_35 post (nI s) self args rf h yc yt ys ym no nb ya yw yv yu yo yk yp ye cp ycf mt kd ytk ytp ysk yoc yof ybt ybp sv vr ow ed wa yh vl ypr mo mb → wY_activate_3 post (nI s) self args rf yc yt ys ym no nb ya yw yv yu yo yk yp ye cp ycf mt kd ytk ytp ysk yoc yof ybt ybp sv vr ow ed wa yh vl ypr mo mb m (nI c)) := by
  intro b
  induction b with
  | zero => intro c i h; omega
  | succ b ih =>
    intro c i hb hc hi
    have Cc := C c hc
    have x1 : ¬ (6 : Int32) ≤ nI i := nI_ge (b := 6) (by omega) (by decide)
    have x2 : ¬ nI c = -1 := ax_nIm1 (by omega)
    have x3 : vp_in (nI c * 6 + nI s) 36 := by rw [ax_ix6]; exact vp_in_nI (by omega) (by decide)
    have x4 : (nI c * 6 + nI s).toNatClampNeg = 6 * c + s := by rw [ax_ix6]; exact nI_clamp (by omega)
    have y1 : ¬ nI c < 0 := nI_pos (by omega)
    have y3 : vp_in (6 * nI c + nI s) 36 := by rw [ay_ix6]; exact vp_in_nI (by omega) (by decide)
    have y4 : (6 * nI c + nI s).toNatClampNeg = 6 * c + s := by rw [ay_ix6]; exact nI_clamp (by omega)
    have ci : vp_in (nI c) 6 := vp_in_nI (by omega) (by decide)
    have cl : (nI c).toNatClampNeg = c := nI_clamp (by omega)
    rcases Cc.2.2 s hs with e | ⟨tm, ht, e⟩
    · rcases Cc.1 with p | ⟨p, hp, e2⟩
      · refine ⟨-1, Or.inl rfl, fun post m hm hp => ?_, fun post m hm hp => ?_⟩
        · obtain ⟨m, rfl⟩ : ∃ m', m = m' + 2 := ⟨m - 2, by omega⟩
          exact br_f x1 (br_f x2 (And.intro x3 (br_t (by rw [x4]; exact e) (And.intro ci (nm_r (e' := -1) (by rw [cl]; exact p) (nm_r (nI_1 i) (lk_x1 post hp)))))))
        · obtain ⟨m, rfl⟩ : ∃ m', m = m' + 2 := ⟨m - 2, by omega⟩
          exact br_f y1 (And.intro y3 (br_f (by rw [y4, e]; decide) (And.intro ci (nm_r (e' := -1) (by rw [cl]; exact p) (br_t (by decide) hp)))))
      · obtain ⟨h, h1, h2, h3⟩ := ih p (i + 1) (by omega) (by omega) (by omega)
        refine ⟨h, h1, fun post m hm hp => ?_, fun post m hm hp => ?_⟩
        · obtain ⟨m, rfl⟩ : ∃ m', m = m' + 1 := ⟨m - 1, by omega⟩
          exact br_f x1 (br_f x2 (And.intro x3 (br_t (by rw [x4]; exact e) (And.intro ci (nm_r (e' := nI p) (by rw [cl]; exact e2) (nm_r (nI_1 i) (h2 post m (by omega) hp)))))))
        · obtain ⟨m, rfl⟩ : ∃ m', m = m' + 1 := ⟨m - 1, by omega⟩
          exact br_f y1 (And.intro y3 (br_f (by rw [y4, e]; decide) (And.intro ci (nm_r (e' := nI p) (by rw [cl]; exact e2) (h3 post m (by omega) hp)))))
    · refine ⟨nI c, Or.inr ⟨c, tm, hc, ht, rfl, e⟩, fun post m hm hp => ?_, fun post m hm hp => ?_⟩
      · obtain ⟨m, rfl⟩ : ∃ m', m = m' + 1 := ⟨m - 1, by omega⟩
        exact br_f x1 (br_f x2 (And.intro x3 (br_f (by rw [x4, e]; exact ax_nIm1 (by omega)) hp)))
      · obtain ⟨m, rfl⟩ : ∃ m', m = m' + 1 := ⟨m - 1, by omega⟩
        exact br_f y1 (And.intro y3 (br_t (by rw [y4, e]; exact nI_pos' (by omega)) hp))
/-! finishIs and isKind -/
theorem lk_d1 (post : Int32 → Prop) {s i : Int32} {k : Nat} (hp : post 0) : wX_descends_5 post s nc nt ns mn n na f ws vs en rs pc tc dc cp cf mt op tk tp fp sk oc of bt ba rd sl ac af fa fw fv wt wd wv pr mc (k + 1) (-1) i := by
  by_cases h : 6 ≤ i
  · exact br_t h hp
  · exact br_f h (br_t rfl hp)
theorem lk_d (C : ∀ c, c < NC → pg_C NT c cp cf mt) (hN : NC ≤ 6) {g : Int32} : ∀ b c i : Nat, c < b → c < NC → i + c < 6 → ∃ h : Int32, (h = 0 ∨ h = 1) ∧ (∀ (post : Int32 → Prop) (m : Nat), c + 1 < m → post h → wX_descends_5 post g nc nt ns mn n na f ws vs en rs pc tc dc cp cf mt op tk tp fp sk oc of bt ba rd sl ac af fa fw fv wt wd wv pr mc m (nI c) (nI i)) ∧ (∀ (post : Int32 → Prop) (m : Nat), c + 1 < m → post h → wY_isKind_25 post g yc yt ys ym no nb ya yw yv yu yo yk yp ye cp ycf ymt kd ytk ytp ysk yoc yof ybt ybp sv vr ow ed wa yh vl ypr mo mb m (nI c)) := by
  intro b
  induction b with
  | zero => intro c i h; omega
  | succ b ih =>
    intro c i hb hc hi
    have Cc := C c hc
    have x1 : ¬ (6 : Int32) ≤ nI i := nI_ge (b := 6) (by omega) (by decide)
    have x2 : ¬ nI c = -1 := ax_nIm1 (by omega)
    have y1 : ¬ nI c < 0 := nI_pos (by omega)
    have ci : vp_in (nI c) 6 := vp_in_nI (by omega) (by decide)
    have cl : (nI c).toNatClampNeg = c := nI_clamp (by omega)
    by_cases e : nI c = g
    · refine ⟨1, Or.inr rfl, fun post m hm hp => ?_, fun post m hm hp => ?_⟩
      · obtain ⟨m, rfl⟩ : ∃ m', m = m' + 1 := ⟨m - 1, by omega⟩
        exact br_f x1 (br_f x2 (br_t e hp))
      · obtain ⟨m, rfl⟩ : ∃ m', m = m' + 1 := ⟨m - 1, by omega⟩
        exact br_f y1 (br_t e (br_f y1 hp))
    · rcases Cc.1 with p | ⟨p, hp, e2⟩
      · refine ⟨0, Or.inl rfl, fun post m hm hp => ?_, fun post m hm hp => ?_⟩
        · obtain ⟨m, rfl⟩ : ∃ m', m = m' + 2 := ⟨m - 2, by omega⟩
          exact br_f x1 (br_f x2 (br_f e (And.intro ci (nm_r (e' := -1) (by rw [cl]; exact p) (nm_r (nI_1 i) (lk_d1 post hp))))))
        · obtain ⟨m, rfl⟩ : ∃ m', m = m' + 2 := ⟨m - 2, by omega⟩
          exact br_f y1 (br_f e (And.intro ci (nm_r (e' := -1) (by rw [cl]; exact p) (br_t (by decide) (br_t (by decide) hp)))))
      · obtain ⟨h, h1, h2, h3⟩ := ih p (i + 1) (by omega) (by omega) (by omega)
        refine ⟨h, h1, fun post m hm hp => ?_, fun post m hm hp => ?_⟩
        · obtain ⟨m, rfl⟩ : ∃ m', m = m' + 1 := ⟨m - 1, by omega⟩
          exact br_f x1 (br_f x2 (br_f e (And.intro ci (nm_r (e' := nI p) (by rw [cl]; exact e2) (nm_r (nI_1 i) (h2 post m (by omega) hp))))))
        · obtain ⟨m, rfl⟩ : ∃ m', m = m' + 1 := ⟨m - 1, by omega⟩
          exact br_f y1 (br_f e (And.intro ci (nm_r (e' := nI p) (by rw [cl]; exact e2) (h3 post m (by omega) hp))))
theorem lk_is (post : SX → Prop) {q : Nat} {k r : Int32} (hq : q < 2100) (hr : r = 0 ∨ r = 1) (h : (¬ vb_T (wv q) = 4 ∧ r = 0) ∨ (∃ t c : Nat, wv q = vb_pk 4 (nI t) ∧ t < 200 ∧ oc t = nI c ∧ ∀ Q : Int32 → Prop, Q r → wpX_descends Q (nc, nt, ns, mn, n, na, f, ws, nI q, en, rs, pc, tc, dc, cp, cf, mt, op, tk, tp, fp, sk, oc, of, bt, ba, rd, sl, ac, af, fa, fw, fv, wt, wd, wv, pr, mc) (nI c) k)) (hp : post (nc, nt, ns, mn, n, na, f, ws, nI (q + 1), en, rs, pc, tc, dc, cp, cf, mt, op, tk, tp, fp, sk, oc, of, bt, ba, rd, sl, ac, af, fa, fw, fv, wt, wd, vp_updL wv q (vb_pk 2 r), pr, mc)) : wpX_finishIs post (nc, nt, ns, mn, n, na, f, ws, nI (q + 1), en, rs, pc, tc, dc, cp, cf, mt, op, tk, tp, fp, sk, oc, of, bt, ba, rd, sl, ac, af, fa, fw, fv, wt, wd, wv, pr, mc) k := by
  unfold wpX_finishIs
  have L : wX_finishIs_36 post r nc nt ns mn n na f ws (nI q) en rs pc tc dc cp cf mt op tk tp fp sk oc of bt ba rd sl ac af fa fw fv wt wd wv pr mc := by
    rcases hr with rfl | rfl
    · exact br_t rfl (ax_pushInt _ hq hp)
    · exact br_f (by decide) (ax_pushInt _ hq hp)
  refine ax_pop _ hq ?_
  rcases h with ⟨h1, rfl⟩ | ⟨t, c, h1, ht, h2, h3⟩
  · exact br_f h1 L
  · rw [h1]
    refine ax_sort _ (vC_4 _) (br_t rfl (ax_num _ (And.intro (vp_in_nI ht (by decide)) ?_)))
    rw [nI_clamp (by omega), h2]
    exact h3 _ L
theorem lk_isY0 (post : Int32 → Prop) {x : Int64} {g : Int32} (h : ¬ vb_T x = 4) (hp : post 0) : wpY_isKind post (yc, yt, ys, ym, no, nb, ya, yw, yv, yu, yo, yk, yp, ye, ycp, ycf, ymt, kd, ytk, ytp, ysk, yoc, yof, ybt, ybp, sv, vr, ow, ed, wa, yh, vl, ypr, mo, mb) x g := by
  unfold wpY_isKind
  exact br_f h (Exists.intro 1 (br_t (by decide) (br_t (by decide) hp)))
theorem lk_isY1 (post : Int32 → Prop) {t c m : Nat} {g : Int32} (ht : t < 201) (h1 : yoc t = nI c) (hp : wY_isKind_25 post g yc yt ys ym no nb ya yw yv yu yo yk yp ye ycp ycf ymt kd ytk ytp ysk yoc yof ybt ybp sv vr ow ed wa yh vl ypr mo mb m (nI c)) : wpY_isKind post (yc, yt, ys, ym, no, nb, ya, yw, yv, yu, yo, yk, yp, ye, ycp, ycf, ymt, kd, ytk, ytp, ysk, yoc, yof, ybt, ybp, sv, vr, ow, ed, wa, yh, vl, ypr, mo, mb) (vb_pk 4 (nI t)) g := by
  unfold wpY_isKind
  exact ay_type _ (vC_4 _) (br_t rfl (ay_num _ (And.intro (vp_in_nI ht (by decide)) (nm_r (e' := nI c) (by rw [nI_clamp (by omega)]; exact h1) (Exists.intro m hp)))))
/-! send and super -/
theorem lk_e {q s : Nat} : nI (q + 1 + s % 3) - nI (s % 3 + 1) = nI q := by
  rw [pk_sub (by omega)]
  exact congrArg nI (by omega)
theorem lk_send_s (post : SX → Prop) {s q : Nat} (hs : s < 6) (hq : q + 1 + s % 3 ≤ 2100) (h : ¬ vb_T (wv q) = 4) (hp : post (nc, nt, ns, mn, n, na, f, ws, nI (q + 1 + s % 3), 1, rs, pc, tc, dc, cp, cf, mt, op, tk, tp, fp, sk, oc, of, bt, ba, rd, sl, ac, af, fa, fw, fv, wt, wd, wv, pr, mc)) : wpX_finishSend post (nc, nt, ns, mn, n, na, f, ws, nI (q + 1 + s % 3), en, rs, pc, tc, dc, cp, cf, mt, op, tk, tp, fp, sk, oc, of, bt, ba, rd, sl, ac, af, fa, fw, fv, wt, wd, wv, pr, mc) (nI s) := by
  unfold wpX_finishSend
  exact ax_args _ hs (nm_r (nI_1 _) (And.intro (by rw [lk_e]; exact vp_in_nI (by omega) (by decide)) (nm_r (e' := wv q) (by rw [lk_e, nI_clamp (by omega)]) (br_f h (br_t rfl hp)))))
theorem lk_send_h (post : SX → Prop) {s q t c : Nat} {h : Int32} (hs : s < 6) (hq : q + 1 + s % 3 ≤ 2100) (h0 : wv q = vb_pk 4 (nI t)) (ht : t < 200) (h1 : oc t = nI c) (h2 : ∀ Q : Int32 → Prop, Q h → wpX_holderOf Q (nc, nt, ns, mn, n, na, f, ws, nI (q + 1 + s % 3), en, rs, pc, tc, dc, cp, cf, mt, op, tk, tp, fp, sk, oc, of, bt, ba, rd, sl, ac, af, fa, fw, fv, wt, wd, wv, pr, mc) (nI c) (nI s)) (hp : wX_finishSend_50 post (nI s) (nI (s % 3 + 1)) (vb_pk 4 (nI t)) h nc nt ns mn n na f ws (nI (q + 1 + s % 3)) en rs pc tc dc cp cf mt op tk tp fp sk oc of bt ba rd sl ac af fa fw fv wt wd wv pr mc) : wpX_finishSend post (nc, nt, ns, mn, n, na, f, ws, nI (q + 1 + s % 3), en, rs, pc, tc, dc, cp, cf, mt, op, tk, tp, fp, sk, oc, of, bt, ba, rd, sl, ac, af, fa, fw, fv, wt, wd, wv, pr, mc) (nI s) := by
  unfold wpX_finishSend
  exact ax_args _ hs (nm_r (nI_1 _) (And.intro (by rw [lk_e]; exact vp_in_nI (by omega) (by decide)) (nm_r (e' := vb_pk 4 (nI t)) (by rw [lk_e, nI_clamp (by omega)]; exact h0) (ax_sort _ (vC_4 _) (br_t rfl (ax_num _ (And.intro (vp_in_nI ht (by decide)) (by rw [nI_clamp (by omega), h1]; exact h2 _ hp))))))))
theorem lk_s50_s (post : SX → Prop) {s k : Int32} {x : Int64} (hp : post (nc, nt, ns, mn, n, na, f, ws, vs, 1, rs, pc, tc, dc, cp, cf, mt, op, tk, tp, fp, sk, oc, of, bt, ba, rd, sl, ac, af, fa, fw, fv, wt, wd, wv, pr, mc)) : wX_finishSend_50 post s k x (-1) nc nt ns mn n na f ws vs en rs pc tc dc cp cf mt op tk tp fp sk oc of bt ba rd sl ac af fa fw fv wt wd wv pr mc :=
  br_t rfl hp
theorem lk_s50_t (post : SX → Prop) {s k : Int32} {x : Int64} {o : Nat} (ho : o < 6) (hp : post (nc, nt, ns, mn, n, na, f, ws, vs, 2, rs, pc, nI 200, dc, cp, cf, mt, op, tk, tp, fp, sk, oc, of, bt, ba, rd, sl, ac, af, fa, fw, fv, wt, wd, wv, pr, mc)) : wX_finishSend_50 post s k x (nI o) nc nt ns mn n na f ws vs en rs pc (nI 200) dc cp cf mt op tk tp fp sk oc of bt ba rd sl ac af fa fw fv wt wd wv pr mc :=
  br_f (ax_nIm1 (by omega)) (ax_may_t _ (br_t rfl hp))
theorem lk_s50_d (post : SX → Prop) {s k : Int32} {x : Int64} {o r : Nat} (ho : o < 6) (hr : r < 200) (hp : post (nc, nt, ns, mn, n, na, nI 20, ws, vs, 3, rs, pc, nI (r + 1), dc, cp, cf, mt, op, tk, tp, fp, sk, oc, of, bt, ba, rd, sl, ac, af, fa, fw, fv, wt, wd, wv, pr, mc)) : wX_finishSend_50 post s k x (nI o) nc nt ns mn n na (nI 20) ws vs en rs pc (nI r) dc cp cf mt op tk tp fp sk oc of bt ba rd sl ac af fa fw fv wt wd wv pr mc :=
  br_f (ax_nIm1 (by omega)) (ax_may_d _ hr (br_t rfl hp))
theorem lk_s50_f (post : SX → Prop) {s k : Int32} {x : Int64} {o r g : Nat} (ho : o < 6) (hr : r < 200) (hg : g < 20) (hp : wpX_activate post (nc, nt, ns, mn, n, na, nI g, ws, vs, en, rs, pc, nI (r + 1), dc, cp, cf, mt, op, tk, tp, fp, sk, oc, of, bt, ba, rd, sl, ac, af, fa, fw, fv, wt, wd, wv, pr, mc) (nI o) s x k) : wX_finishSend_50 post s k x (nI o) nc nt ns mn n na (nI g) ws vs en rs pc (nI r) dc cp cf mt op tk tp fp sk oc of bt ba rd sl ac af fa fw fv wt wd wv pr mc :=
  br_f (ax_nIm1 (by omega)) (ax_may_f _ hr hg (br_f (by decide) hp))
theorem lk_sup_n (post : SX → Prop) {g a : Nat} {s : Int32} (hg : g < 21) (ha : a < 201) (h1 : fa g = nI a) (h2 : ac a = -1) (hp : post (nc, nt, ns, mn, n, na, nI g, ws, vs, 1, rs, pc, tc, dc, cp, cf, mt, op, tk, tp, fp, sk, oc, of, bt, ba, rd, sl, ac, af, fa, fw, fv, wt, wd, wv, pr, mc)) : wpX_finishSuper post (nc, nt, ns, mn, n, na, nI g, ws, vs, en, rs, pc, tc, dc, cp, cf, mt, op, tk, tp, fp, sk, oc, of, bt, ba, rd, sl, ac, af, fa, fw, fv, wt, wd, wv, pr, mc) s :=
  And.intro (vp_in_nI hg (by decide)) (And.intro (by rw [nI_clamp (by omega), h1]; exact vp_in_nI ha (by decide)) (nm_r (e' := -1) (by rw [nI_clamp (n := g) (by omega), h1, nI_clamp (by omega), h2]) (br_t rfl (br_t rfl hp))))
theorem lk_sup_h (post : SX → Prop) {g a c : Nat} {s h p : Int32} (hg : g < 21) (ha : a < 201) (hc : c < 6) (h1 : fa g = nI a) (h2 : ac a = nI c) (h3 : cp c = p) (h4 : ∀ Q : Int32 → Prop, Q h → wpX_holderOf Q (nc, nt, ns, mn, n, na, nI g, ws, vs, en, rs, pc, tc, dc, cp, cf, mt, op, tk, tp, fp, sk, oc, of, bt, ba, rd, sl, ac, af, fa, fw, fv, wt, wd, wv, pr, mc) p s) (hp : wX_finishSuper_35 post s h nc nt ns mn n na (nI g) ws vs en rs pc tc dc cp cf mt op tk tp fp sk oc of bt ba rd sl ac af fa fw fv wt wd wv pr mc) : wpX_finishSuper post (nc, nt, ns, mn, n, na, nI g, ws, vs, en, rs, pc, tc, dc, cp, cf, mt, op, tk, tp, fp, sk, oc, of, bt, ba, rd, sl, ac, af, fa, fw, fv, wt, wd, wv, pr, mc) s :=
  And.intro (vp_in_nI hg (by decide)) (And.intro (by rw [nI_clamp (by omega), h1]; exact vp_in_nI ha (by decide)) (nm_r (e' := nI c) (by rw [nI_clamp (n := g) (by omega), h1, nI_clamp (by omega), h2]) (br_f (ax_nIm1 (by omega)) (And.intro (vp_in_nI hc (by decide)) (by rw [nI_clamp (by omega), h3]; exact h4 _ hp)))))
theorem lk_s35_s (post : SX → Prop) {s : Int32} (hp : post (nc, nt, ns, mn, n, na, f, ws, vs, 1, rs, pc, tc, dc, cp, cf, mt, op, tk, tp, fp, sk, oc, of, bt, ba, rd, sl, ac, af, fa, fw, fv, wt, wd, wv, pr, mc)) : wX_finishSuper_35 post s (-1) nc nt ns mn n na f ws vs en rs pc tc dc cp cf mt op tk tp fp sk oc of bt ba rd sl ac af fa fw fv wt wd wv pr mc :=
  br_t rfl hp
theorem lk_s35_t (post : SX → Prop) {s : Int32} {o : Nat} (ho : o < 6) (hp : post (nc, nt, ns, mn, n, na, f, ws, vs, 2, rs, pc, nI 200, dc, cp, cf, mt, op, tk, tp, fp, sk, oc, of, bt, ba, rd, sl, ac, af, fa, fw, fv, wt, wd, wv, pr, mc)) : wX_finishSuper_35 post s (nI o) nc nt ns mn n na f ws vs en rs pc (nI 200) dc cp cf mt op tk tp fp sk oc of bt ba rd sl ac af fa fw fv wt wd wv pr mc :=
  br_f (ax_nIm1 (by omega)) (ax_may_t _ (br_t rfl hp))
theorem lk_s35_d (post : SX → Prop) {s : Int32} {o r : Nat} (ho : o < 6) (hr : r < 200) (hp : post (nc, nt, ns, mn, n, na, nI 20, ws, vs, 3, rs, pc, nI (r + 1), dc, cp, cf, mt, op, tk, tp, fp, sk, oc, of, bt, ba, rd, sl, ac, af, fa, fw, fv, wt, wd, wv, pr, mc)) : wX_finishSuper_35 post s (nI o) nc nt ns mn n na (nI 20) ws vs en rs pc (nI r) dc cp cf mt op tk tp fp sk oc of bt ba rd sl ac af fa fw fv wt wd wv pr mc :=
  br_f (ax_nIm1 (by omega)) (ax_may_d _ hr (br_t rfl hp))
theorem lk_s35_f (post : SX → Prop) {s o r g a : Nat} (ho : o < 6) (hr : r < 200) (hg : g < 20) (ha : a < 201) (hs : s < 6) (h1 : fa g = nI a) (hp : wpX_activate post (nc, nt, ns, mn, n, na, nI g, ws, vs, en, rs, pc, nI (r + 1), dc, cp, cf, mt, op, tk, tp, fp, sk, oc, of, bt, ba, rd, sl, ac, af, fa, fw, fv, wt, wd, wv, pr, mc) (nI o) (nI s) (sl (a * 7 + 6)) (nI (s % 3))) : wX_finishSuper_35 post (nI s) (nI o) nc nt ns mn n na (nI g) ws vs en rs pc (nI r) dc cp cf mt op tk tp fp sk oc of bt ba rd sl ac af fa fw fv wt wd wv pr mc :=
  br_f (ax_nIm1 (by omega)) (ax_may_f _ hr hg (br_f (by decide) (ax_slot (j := 6) _ (by omega) h1 (ax_args _ hs (And.intro (vp_in_nI (by omega) (by decide)) (by rw [nI_clamp (by omega)]; exact hp))))))
theorem lk_sendY_s (post : SY → Prop) {q k : Nat} {s : Int32} (hq : q + 1 + k ≤ 2200) (h : ¬ vb_T (vl q) = 4) (hp : post (yc, yt, ys, ym, no, nb, ya, yw, nI (q + 1 + k), yu, yo, yk, yp, 1, ycp, ycf, ymt, kd, ytk, ytp, ysk, yoc, yof, ybt, ybp, sv, vr, ow, ed, wa, yh, vl, ypr, mo, mb)) : wpY_send post (yc, yt, ys, ym, no, nb, ya, yw, nI (q + 1 + k), yu, yo, yk, yp, ye, ycp, ycf, ymt, kd, ytk, ytp, ysk, yoc, yof, ybt, ybp, sv, vr, ow, ed, wa, yh, vl, ypr, mo, mb) s (nI k) := by
  have e : nI (q + 1 + k) - 1 - nI k = nI q := by
    rw [show (1 : Int32) = nI 1 from rfl, pk_sub (by omega), pk_sub (by omega)]
    exact congrArg nI (by omega)
  exact And.intro (by rw [e]; exact vp_in_nI (by omega) (by decide)) (nm_r (e' := vl q) (by rw [e, nI_clamp (by omega)]) (br_f h hp))
theorem lk_sendY_h (post : SY → Prop) {q k t c m : Nat} {s : Int32} (hq : q + 1 + k ≤ 2200) (h : vl q = vb_pk 4 (nI t)) (ht : t < 201) (h1 : yoc t = nI c) (hp : wY_activate_3 post s (vb_pk 4 (nI t)) (nI k) 1 yc yt ys ym no nb ya yw (nI (q + 1 + k)) yu yo yk yp ye ycp ycf ymt kd ytk ytp ysk yoc yof ybt ybp sv vr ow ed wa yh vl ypr mo mb m (nI c)) : wpY_send post (yc, yt, ys, ym, no, nb, ya, yw, nI (q + 1 + k), yu, yo, yk, yp, ye, ycp, ycf, ymt, kd, ytk, ytp, ysk, yoc, yof, ybt, ybp, sv, vr, ow, ed, wa, yh, vl, ypr, mo, mb) s (nI k) := by
  have e : nI (q + 1 + k) - 1 - nI k = nI q := by
    rw [show (1 : Int32) = nI 1 from rfl, pk_sub (by omega), pk_sub (by omega)]
    exact congrArg nI (by omega)
  exact And.intro (by rw [e]; exact vp_in_nI (by omega) (by decide)) (nm_r (e' := vb_pk 4 (nI t)) (by rw [e, nI_clamp (by omega)]; exact h) (ay_type _ (vC_4 _) (br_t rfl (ay_num _ (And.intro (vp_in_nI ht (by decide)) (by rw [nI_clamp (by omega), h1]; exact Exists.intro m hp))))))
theorem lk_supY_n (post : SY → Prop) {a : Nat} {s k : Int32} (ha : a < 202) (h1 : ow a = -1) (hp : post (yc, yt, ys, ym, no, nb, ya, yw, yv, yu, yo, yk, yp, 1, ycp, ycf, ymt, kd, ytk, ytp, ysk, yoc, yof, ybt, ybp, sv, vr, ow, ed, wa, yh, vl, ypr, mo, mb)) : wpY_sendAbove post (yc, yt, ys, ym, no, nb, ya, yw, yv, yu, yo, yk, yp, ye, ycp, ycf, ymt, kd, ytk, ytp, ysk, yoc, yof, ybt, ybp, sv, vr, ow, ed, wa, yh, vl, ypr, mo, mb) s k (nI a) :=
  And.intro (vp_in_nI ha (by decide)) (nm_r (e' := -1) (by rw [nI_clamp (by omega)]; exact h1) (br_t (by decide) hp))
theorem lk_supY_m (post : SY → Prop) {a c : Nat} {s k : Int32} (ha : a < 202) (hc : c < 6) (h1 : ow a = nI c) (h2 : ycp c = -1) (hp : post (yc, yt, ys, ym, no, nb, ya, yw, yv, yu, yo, yk, yp, 1, ycp, ycf, ymt, kd, ytk, ytp, ysk, yoc, yof, ybt, ybp, sv, vr, ow, ed, wa, yh, vl, ypr, mo, mb)) : wpY_sendAbove post (yc, yt, ys, ym, no, nb, ya, yw, yv, yu, yo, yk, yp, ye, ycp, ycf, ymt, kd, ytk, ytp, ysk, yoc, yof, ybt, ybp, sv, vr, ow, ed, wa, yh, vl, ypr, mo, mb) s k (nI a) :=
  And.intro (vp_in_nI ha (by decide)) (nm_r (e' := nI c) (by rw [nI_clamp (by omega)]; exact h1) (br_f (nI_pos (by omega)) (And.intro (vp_in_nI hc (by decide)) (br_f (by rw [nI_clamp (by omega), h2]; decide) hp))))
theorem lk_supY_h (post : SY → Prop) {a c p m : Nat} {s k : Int32} (ha : a < 202) (hc : c < 6) (hpc : p < 6) (h1 : ow a = nI c) (h2 : ycp c = nI p) (hp : wY_activate_3 post s (sv a) k 0 yc yt ys ym no nb ya yw yv yu yo yk yp ye ycp ycf ymt kd ytk ytp ysk yoc yof ybt ybp sv vr ow ed wa yh vl ypr mo mb m (nI p)) : wpY_sendAbove post (yc, yt, ys, ym, no, nb, ya, yw, yv, yu, yo, yk, yp, ye, ycp, ycf, ymt, kd, ytk, ytp, ysk, yoc, yof, ybt, ybp, sv, vr, ow, ed, wa, yh, vl, ypr, mo, mb) s k (nI a) :=
  And.intro (vp_in_nI ha (by decide)) (nm_r (e' := nI c) (by rw [nI_clamp (by omega)]; exact h1) (br_f (nI_pos (by omega)) (And.intro (vp_in_nI hc (by decide)) (br_t (by rw [nI_clamp (by omega), h2]; exact nI_pos' (by omega)) (And.intro (vp_in_nI hc (by decide)) (And.intro (vp_in_nI ha (by decide)) (by rw [nI_clamp (n := c) (by omega), h2, nI_clamp (by omega)]; exact Exists.intro m hp)))))))
end
end
section
/-! the relation of two runs under way -/
def pe_P (pr py : Nat → Int32) (k : Nat) : Nat → Int32 := fun i => if i < k then pr i else py i
theorem pe_0 {pr py : Nat → Int32} : pe_P pr py 0 = py := funext fun i => if_neg (Nat.not_lt_zero i)
theorem pe_u {pr py : Nat → Int32} {k : Nat} {x : Int32} : upd (pe_P pr py k) k x = pe_P (upd pr k x) py (k + 1) := by
  funext i
  by_cases e : i = k
  · subst e
    rw [pk_us]
    show x = if i < i + 1 then upd pr i x i else py i
    rw [if_pos (Nat.lt_succ_self i), pk_us]
  · rw [pk_un e]
    show (if i < k then pr i else py i) = if i < k + 1 then upd pr k x i else py i
    by_cases z : i < k
    · rw [if_pos z, if_pos (by omega), pk_un e]
    · rw [if_neg z, if_neg (by omega)]
theorem pe_lt {pr py : Nat → Int32} {k i : Nat} (h : i < k) : pe_P pr py k i = pr i := if_pos h
def cu_n (yoc : Nat → Int32) (c : Nat) : Nat → Nat
  | 0 => 0
  | i + 1 => cu_n yoc c i + (if yoc i = nI c then 1 else 0)
def rl_H (NC NT N A : Nat) (ob : Nat → Bool) (KN : Nat → Nat) (oc bt ba ac : Nat → Int32) (of sl : Nat → Int64) (yoc ybt ybp ow : Nat → Int32) (yof sv vr : Nat → Int64) : Prop :=
  (∀ t, t < N → ob t = true → (∃ c, c < NC ∧ oc t = nI c ∧ yoc (cu_g ob t) = nI c) ∧ ∀ k, k < 4 → vb_R ob N (of (t * 4 + k)) (yof (4 * cu_g ob t + k)))
  ∧ (∀ t, t < N → ob t = false → ∃ tm a, tm < NT ∧ KN tm = 13 ∧ a < A ∧ bt t = nI tm ∧ ybt (cu_g ob t) = nI tm ∧ ba t = nI a ∧ ybp (cu_g ob t) = nI a)
  ∧ (∀ a, a < A → vb_R ob N (sl (a * 7 + 6)) (sv a) ∧ (∀ v, v < 6 → vb_R ob N (sl (a * 7 + v)) (vr (6 * a + v))) ∧ ow a = ac a ∧ (ac a = -1 ∨ ∃ c, c < NC ∧ ac a = nI c))
def rl_B (NC N A T Pc D : Nat) (ob : Nat → Bool) (K : List (Bool × Nat × Nat)) (mc yoc : Nat → Int32) : Prop :=
  (1 ≤ A ∧ N + A ≤ T + 1 ∧ T ≤ 200) ∧ (Pc ≤ 20 ∧ kl_F K ≤ D ∧ D ≤ 20) ∧ (∀ c, c < NC → mc c = nI (cu_n yoc c (cu_O ob N))) ∧ ∀ i, i < cu_O ob N → ∃ c, c < NC ∧ yoc i = nI c
def rl_K (NT A : Nat) (R : Int64 → Int64 → Prop) (KN SZ : Nat → Nat) (K : List (Bool × Nat × Nat)) (af fa fw fv wt wd : Nat → Int32) (wv : Nat → Int64) (ed wa yh : Nat → Int32) (vl : Nat → Int64) : Prop :=
  kl_S NT A R KN SZ fa fw fv wt wd wv wa yh vl K ∧ (fa 0 = 0 ∧ fw 0 = 0 ∧ fv 0 = 0) ∧ ∀ a, a < A → af a = kl_ax K a ∧ ed a = kl_ay K a
def rl_R (NC NT N A T Pc D : Nat) (ob : Nat → Bool) (K : List (Bool × Nat × Nat)) (cp cf mt op tk tp fp kd : Nat → Int32) (KN PN SZ : Nat → Nat) (oc : Nat → Int32) (of : Nat → Int64) (bt ba : Nat → Int32) (sl : Nat → Int64) (ac af fa fw fv wt wd : Nat → Int32) (wv : Nat → Int64) (mc yoc : Nat → Int32) (yof : Nat → Int64) (ybt ybp : Nat → Int32) (sv vr : Nat → Int64) (ow ed wa yh : Nat → Int32) (vl : Nat → Int64) : Prop :=
  pg_P NC NT cp cf mt op tk tp fp kd KN PN SZ ∧ rl_H NC NT N A ob KN oc bt ba ac of sl yoc ybt ybp ow yof sv vr ∧ rl_K NT A (vb_R ob N) KN SZ K af fa fw fv wt wd wv ed wa yh vl ∧ rl_B NC N A T Pc D ob K mc yoc
def cf_V (NC NT : Nat) (ns mn : Int32) (cp cf mt op tk tp fp sk kd py : Nat → Int32) (KN PN SZ : Nat → Nat) (μ : Nat) (u : SX) (v : SY) : Prop := ∃ (N A T Pc D : Nat) (ob : Nat → Bool) (K : List (Bool × Nat × Nat)) (rs : Int64) (oc bt ba rd ac af fa fw fv wt wd pr mc : Nat → Int32) (of sl wv : Nat → Int64) (yoc ybt ybp ow ed wa yh mo mb : Nat → Int32) (yof sv vr vl : Nat → Int64), u = (nI NC, nI NT, ns, mn, nI N, nI A, nI (kl_F K), nI (kl_W K), nI (kl_X KN K + 1), -1, rs, nI Pc, nI T, nI D, cp, cf, mt, op, tk, tp, fp, sk, oc, of, bt, ba, rd, sl, ac, af, fa, fw, fv, wt, wd, wv, pr, mc) ∧ v = (nI NC, nI NT, ns, mn, nI (cu_O ob N), nI (N - cu_O ob N), nI A, nI (kl_Q KN K), nI (kl_Y KN K + 1), nI (kl_F K), nI D, nI T, nI Pc, -4, cp, cf, mt, kd, tk, tp, sk, yoc, yof, ybt, ybp, sv, vr, ow, ed, wa, yh, vl, pe_P pr py Pc, mo, mb) ∧ (rl_R NC NT N A T Pc D ob K cp cf mt op tk tp fp kd KN PN SZ oc of bt ba sl ac af fa fw fv wt wd wv mc yoc yof ybt ybp sv vr ow ed wa yh vl) ∧ vb_R ob N (wv (kl_X KN K)) (vl (kl_Y KN K)) ∧ 802 * (200 - T) + kl_C KN PN SZ K + 1 ≤ μ
def cf_E (NC NT : Nat) (ns mn : Int32) (cp cf mt op tk tp fp sk kd py : Nat → Int32) (KN PN SZ : Nat → Nat) (μ : Nat) (u : SX) (v : SY) : Prop := ∃ (N A T Pc D : Nat) (ob : Nat → Bool) (K : List (Bool × Nat × Nat)) (rs : Int64) (oc bt ba rd ac af fa fw fv wt wd pr mc : Nat → Int32) (of sl wv : Nat → Int64) (yoc ybt ybp ow ed wa yh mo mb : Nat → Int32) (yof sv vr vl : Nat → Int64) (t : Nat), u = (nI NC, nI NT, ns, mn, nI N, nI A, nI (kl_F K), nI (kl_W K + 1), nI (kl_X KN K), -1, rs, nI Pc, nI T, nI D, cp, cf, mt, op, tk, tp, fp, sk, oc, of, bt, ba, rd, sl, ac, af, fa, fw, fv, wt, wd, wv, pr, mc) ∧ v = (nI NC, nI NT, ns, mn, nI (cu_O ob N), nI (N - cu_O ob N), nI A, nI (kl_Q KN K + 1), nI (kl_Y KN K), nI (kl_F K), nI D, nI T, nI Pc, -4, cp, cf, mt, kd, tk, tp, sk, yoc, yof, ybt, ybp, sv, vr, ow, ed, wa, yh, vl, pe_P pr py Pc, mo, mb) ∧ (rl_R NC NT N A T Pc D ob K cp cf mt op tk tp fp kd KN PN SZ oc of bt ba sl ac af fa fw fv wt wd wv mc yoc yof ybt ybp sv vr ow ed wa yh vl) ∧ (t < NT ∧ kl_W K + kl_X KN K + SZ t ≤ 100 * (kl_F K + 1)) ∧ wt (kl_W K) = nI t ∧ wd (kl_W K) = 0 ∧ wa (kl_Q KN K) = nI (1024 * kl_A K + 8 * t + 0) ∧ 802 * (200 - T) + kl_C KN PN SZ K + 4 * SZ t ≤ μ
def fr_R (NC NT : Nat) (ns mn : Int32) (cp cf mt op tk tp fp sk kd py : Nat → Int32) (KN PN SZ : Nat → Nat) (u : SX) (v : SY) : Prop := ∃ (N A T Pc D : Nat) (ob : Nat → Bool) (na f ws vs en ya yw yv yu : Int32) (rs : Int64) (oc bt ba rd ac af fa fw fv wt wd pr mc : Nat → Int32) (of sl wv : Nat → Int64) (yoc ybt ybp ow ed wa yh mo mb : Nat → Int32) (yof sv vr vl : Nat → Int64), u = (nI NC, nI NT, ns, mn, nI N, na, f, ws, vs, en, rs, nI Pc, nI T, nI D, cp, cf, mt, op, tk, tp, fp, sk, oc, of, bt, ba, rd, sl, ac, af, fa, fw, fv, wt, wd, wv, pr, mc) ∧ v = (nI NC, nI NT, ns, mn, nI (cu_O ob N), nI (N - cu_O ob N), ya, yw, yv, yu, nI D, nI T, nI Pc, en, cp, cf, mt, kd, tk, tp, sk, yoc, yof, ybt, ybp, sv, vr, ow, ed, wa, yh, vl, pe_P pr py Pc, mo, mb) ∧ (en = 0 ∨ en = 1 ∨ en = 2 ∨ en = 3 ∨ en = 4) ∧ (N ≤ 200 ∧ Pc ≤ 20) ∧ ((∀ c, c < NC → mc c = nI (cu_n yoc c (cu_O ob N))) ∧ ∀ i, i < cu_O ob N → ∃ c, c < NC ∧ yoc i = nI c) ∧ (en = 0 → vs = nI 0 ∧ A ≤ 201 ∧ rl_H NC NT N A ob KN oc bt ba ac of sl yoc ybt ybp ow yof sv vr ∧ vb_R ob N rs (vl 0))
/-! the loops -/
def xl_L (Q : SX → Prop) (k i : Nat) (u : SX) : Prop := match u with | (nc, nt, ns, mn, n, na, f, ws, vs, en, rs, pc, tc, dc, cp, cf, mt, op, tk, tp, fp, sk, oc, of, bt, ba, rd, sl, ac, af, fa, fw, fv, wt, wd, wv, pr, mc) => wX_perform_6 Q k (nI i) nc nt ns mn n na f ws vs en rs pc tc dc cp cf mt op tk tp fp sk oc of bt ba rd sl ac af fa fw fv wt wd wv pr mc
def yl_L (Q : SY → Prop) (k : Nat) (v : SY) : Prop := match v with | (yc, yt, ys, ym, no, nb, ya, yw, yv, yu, yo, yk, yp, ye, ycp, ycf, ymt, kd, ytk, ytp, ysk, yoc, yof, ybt, ybp, sv, vr, ow, ed, wa, yh, vl, ypr, mo, mb) => wY_work_133 Q k yc yt ys ym no nb ya yw yv yu yo yk yp ye ycp ycf ymt kd ytk ytp ysk yoc yof ybt ybp sv vr ow ed wa yh vl ypr mo mb
def xs_S (P : SX → Prop) (u : SX) : Prop := match u with
  | (nc, nt, ns, mn, n, na, f, ws, vs, en, rs, pc, tc, dc, cp, cf, mt, op, tk, tp, fp, sk, oc, of, bt, ba, rd, sl, ac, af, fa, fw, fv, wt, wd, wv, pr, mc) => en = -1 ∧ vp_in f 21 ∧ (ws = fw f.toNatClampNeg → wpX_leave P (nc, nt, ns, mn, n, na, f, ws, vs, en, rs, pc, tc, dc, cp, cf, mt, op, tk, tp, fp, sk, oc, of, bt, ba, rd, sl, ac, af, fa, fw, fv, wt, wd, wv, pr, mc)) ∧ (¬ ws = fw f.toNatClampNeg → wpX_beginNextPart (fun r w => (r = 0 → wpX_finish P w) ∧ (¬ r = 0 → P w)) (nc, nt, ns, mn, n, na, f, ws, vs, en, rs, pc, tc, dc, cp, cf, mt, op, tk, tp, fp, sk, oc, of, bt, ba, rd, sl, ac, af, fa, fw, fv, wt, wd, wv, pr, mc))
theorem xl_s {u u1 : SX} (h : ∀ P : SX → Prop, P u1 → xs_S P u) {Q : SX → Prop} {k i : Nat} (hi : i < 1000000) (hl : xl_L Q k (i + 1) u1) : xl_L Q (k + 1) i u := by
  have h' := h (fun w => match w with | (nc, nt, ns, mn, n, na, f, ws, vs, en, rs, pc, tc, dc, cp, cf, mt, op, tk, tp, fp, sk, oc, of, bt, ba, rd, sl, ac, af, fa, fw, fv, wt, wd, wv, pr, mc) => ∀ x : Int32, x = nI i + 1 → wX_perform_6 Q k x nc nt ns mn n na f ws vs en rs pc tc dc cp cf mt op tk tp fp sk oc of bt ba rd sl ac af fa fw fv wt wd wv pr mc) (by
    obtain ⟨nc, nt, ns, mn, n, na, f, ws, vs, en, rs, pc, tc, dc, cp, cf, mt, op, tk, tp, fp, sk, oc, of, bt, ba, rd, sl, ac, af, fa, fw, fv, wt, wd, wv, pr, mc⟩ := u1
    intro x hx
    rw [hx, nI_1]
    exact hl)
  obtain ⟨nc, nt, ns, mn, n, na, f, ws, vs, en, rs, pc, tc, dc, cp, cf, mt, op, tk, tp, fp, sk, oc, of, bt, ba, rd, sl, ac, af, fa, fw, fv, wt, wd, wv, pr, mc⟩ := u
  obtain ⟨e, hv, hb⟩ := h'
  exact br_f (nI_ge (b := 1000000) hi (by decide)) (br_t e (And.intro hv hb))
theorem xl_e {u : SX} (h : match u with | (nc, nt, ns, mn, n, na, f, ws, vs, en, rs, pc, tc, dc, cp, cf, mt, op, tk, tp, fp, sk, oc, of, bt, ba, rd, sl, ac, af, fa, fw, fv, wt, wd, wv, pr, mc) => ¬ en = -1) {Q : SX → Prop} {k i : Nat} (hq : Q u) : xl_L Q (k + 1) i u := by
  obtain ⟨nc, nt, ns, mn, n, na, f, ws, vs, en, rs, pc, tc, dc, cp, cf, mt, op, tk, tp, fp, sk, oc, of, bt, ba, rd, sl, ac, af, fa, fw, fv, wt, wd, wv, pr, mc⟩ := u
  by_cases z : (1000000 : Int32) ≤ nI i
  · exact br_t z hq
  · exact br_f z (br_f h hq)
section
variable {yc yt ys ym no nb ya yw yv yu yo yk yp ye : Int32} {ycp ycf ymt kd ytk ytp ysk yoc ybt ybp ow ed wa yh ypr mo mb : Nat → Int32} {yof sv vr vl : Nat → Int64}
theorem yl_s {v1 : SY} {q : Nat} {Q : SY → Prop} {k : Nat} (hq : q < 2200) (h : ∀ P : SY → Prop, P v1 → wpY_step P (yc, yt, ys, ym, no, nb, ya, nI (q + 1), yv, yu, yo, yk, yp, -4, ycp, ycf, ymt, kd, ytk, ytp, ysk, yoc, yof, ybt, ybp, sv, vr, ow, ed, wa, yh, vl, ypr, mo, mb)) (hl : yl_L Q k v1) : yl_L Q (k + 1) (yc, yt, ys, ym, no, nb, ya, nI (q + 1), yv, yu, yo, yk, yp, -4, ycp, ycf, ymt, kd, ytk, ytp, ysk, yoc, yof, ybt, ybp, sv, vr, ow, ed, wa, yh, vl, ypr, mo, mb) :=
  br_t rfl (br_f (nI_nle (by omega) (by omega)) (h (yl_L Q k) hl))
theorem yl_e1 {Q : SY → Prop} {k : Nat} (h : ¬ ye = -4) (hq : Q (yc, yt, ys, ym, no, nb, ya, yw, yv, yu, yo, yk, yp, ye, ycp, ycf, ymt, kd, ytk, ytp, ysk, yoc, yof, ybt, ybp, sv, vr, ow, ed, wa, yh, vl, ypr, mo, mb)) : yl_L Q (k + 1) (yc, yt, ys, ym, no, nb, ya, yw, yv, yu, yo, yk, yp, ye, ycp, ycf, ymt, kd, ytk, ytp, ysk, yoc, yof, ybt, ybp, sv, vr, ow, ed, wa, yh, vl, ypr, mo, mb) :=
  br_f h (br_f h hq)
theorem yl_e2 {Q : SY → Prop} {k : Nat} (hq : Q (yc, yt, ys, ym, no, nb, ya, nI 0, yv, yu, yo, yk, yp, 0, ycp, ycf, ymt, kd, ytk, ytp, ysk, yoc, yof, ybt, ybp, sv, vr, ow, ed, wa, yh, vl, ypr, mo, mb)) : yl_L Q (k + 1) (yc, yt, ys, ym, no, nb, ya, nI 0, yv, yu, yo, yk, yp, -4, ycp, ycf, ymt, kd, ytk, ytp, ysk, yoc, yof, ybt, ybp, sv, vr, ow, ed, wa, yh, vl, ypr, mo, mb) :=
  br_t rfl (br_t (by decide) (br_t rfl hq))
end
def nx_S (NC NT : Nat) (ns mn : Int32) (cp cf mt op tk tp fp sk kd py : Nat → Int32) (KN PN SZ : Nat → Nat) (μ : Nat) (u : SX) (v : SY) : Prop :=
  (∃ (u1 : SX) (v1 : SY) (k μ' : Nat), 1 ≤ k ∧ μ' + k ≤ μ ∧ (∀ (Q : SX → Prop) (m i : Nat), i + k ≤ 1000000 → xl_L Q m (i + k) u1 → xl_L Q (m + k) i u) ∧ (∀ (Q : SY → Prop) (m : Nat), yl_L Q m v1 → ∃ m', yl_L Q m' v) ∧ (cf_V NC NT ns mn cp cf mt op tk tp fp sk kd py KN PN SZ μ' u1 v1 ∨ cf_E NC NT ns mn cp cf mt op tk tp fp sk kd py KN PN SZ μ' u1 v1))
  ∨ (1 ≤ μ ∧ ∃ (u1 : SX) (v1 : SY), (∀ P : SX → Prop, P u1 → xs_S P u) ∧ (∀ Q : SY → Prop, Q v1 → ∃ m', yl_L Q m' v) ∧ fr_R NC NT ns mn cp cf mt op tk tp fp sk kd py KN PN SZ u1 v1)
section
variable {NC NT : Nat} {ns mn : Int32} {cp cf mt op tk tp fp sk kd py : Nat → Int32} {KN PN SZ : Nat → Nat}
theorem nx_go (H : ∀ μ u v, cf_V NC NT ns mn cp cf mt op tk tp fp sk kd py KN PN SZ μ u v ∨ cf_E NC NT ns mn cp cf mt op tk tp fp sk kd py KN PN SZ μ u v → nx_S NC NT ns mn cp cf mt op tk tp fp sk kd py KN PN SZ μ u v) : ∀ (b μ : Nat) (u : SX) (v : SY), μ < b → cf_V NC NT ns mn cp cf mt op tk tp fp sk kd py KN PN SZ μ u v ∨ cf_E NC NT ns mn cp cf mt op tk tp fp sk kd py KN PN SZ μ u v → ∃ u' v', fr_R NC NT ns mn cp cf mt op tk tp fp sk kd py KN PN SZ u' v' ∧ (∀ (Q : SX → Prop) (i : Nat), i + μ < 1000000 → Q u' → ∃ m, xl_L Q m i u) ∧ (∀ Q : SY → Prop, Q v' → ∃ m, yl_L Q m v) := by
  intro b
  induction b with
  | zero => intro μ u v h; omega
  | succ b ih =>
    intro μ u v hb hC
    rcases H μ u v hC with ⟨u1, v1, k, μ', hk, hm, hX, hY, hC'⟩ | ⟨hm, u1, v1, hX, hY, hF⟩
    · obtain ⟨u', v', F, gX, gY⟩ := ih μ' u1 v1 (by omega) hC'
      refine ⟨u', v', F, fun Q i hi hq => ?_, fun Q hq => ?_⟩
      · obtain ⟨m, hm'⟩ := gX Q (i + k) (by omega) hq
        exact ⟨m + k, hX Q m i (by omega) hm'⟩
      · obtain ⟨m, hm'⟩ := gY Q hq
        exact hY Q m hm'
    · refine ⟨u1, v1, hF, fun Q i hi hq => ?_, hY⟩
      refine ⟨2, xl_s hX (by omega) (xl_e ?_ hq)⟩
      obtain ⟨N, A, T, Pc, D, ob, na, f, ws, vs, en, ya, yw, yv, yu, rs, oc, bt, ba, rd, ac, af, fa, fw, fv, wt, wd, pr, mc, of, sl, wv, yoc, ybt, ybp, ow, ed, wa, yh, mo, mb, yof, sv, vr, vl, e1, e2, e3, _⟩ := hF
      subst e1
      show ¬ en = -1
      rcases e3 with e | e | e | e | e <;> rw [e] <;> decide
end
end
section
section
variable {nc nt ns mn n na f ws vs en pc tc dc : Int32} {rs : Int64} {cp cf mt op tk tp fp sk oc bt ba rd ac af fa fw fv wt wd pr mc : Nat → Int32} {of sl wv : Nat → Int64}
theorem xs_ne {g w b : Nat} (hg : g < 21) (hw : w < 2100) (hb : b ≤ w) (h0 : fw g = nI b) : ¬ nI (w + 1) = fw (nI g).toNatClampNeg := fun e => by
  rw [nI_clamp (by omega), h0, nI_eq (by omega) (by omega)] at e
  omega
theorem xs_fin (P : SX → Prop) {g w t d m b : Nat} (hg : g < 21) (hw : w < 2100) (ht : t < 100) (hb : b ≤ w) (h0 : fw g = nI b) (h1 : wt w = nI t) (h2 : wd w = nI d) (h3 : fp t = nI m) (hd : m ≤ d) (hd3 : d ≤ 3) (h : wpX_finish P (nc, nt, ns, mn, n, na, nI g, nI (w + 1), vs, -1, rs, pc, tc, dc, cp, cf, mt, op, tk, tp, fp, sk, oc, of, bt, ba, rd, sl, ac, af, fa, fw, fv, wt, wd, wv, pr, mc)) : xs_S P (nc, nt, ns, mn, n, na, nI g, nI (w + 1), vs, -1, rs, pc, tc, dc, cp, cf, mt, op, tk, tp, fp, sk, oc, of, bt, ba, rd, sl, ac, af, fa, fw, fv, wt, wd, wv, pr, mc) :=
  ⟨rfl, vp_in_nI hg (by decide), fun e => absurd e (xs_ne hg hw hb h0), fun _ => ax_bnp_f _ hw ht h1 h2 h3 hd hd3 (br_t rfl h)⟩
theorem xs_nxt (P : SX → Prop) {g w t d m b p : Nat} (hg : g < 21) (hw : w + 1 < 2100) (ht : t < 100) (hb : b ≤ w) (h0 : fw g = nI b) (h1 : wt w = nI t) (h2 : wd w = nI d) (h3 : fp t = nI m) (hd : d < m) (hm : m ≤ 3) (h4 : tp (3 * t + d) = nI p) (h : P (nc, nt, ns, mn, n, na, nI g, nI (w + 2), vs, -1, rs, pc, tc, dc, cp, cf, mt, op, tk, tp, fp, sk, oc, of, bt, ba, rd, sl, ac, af, fa, fw, fv, upd wt (w + 1) (nI p), upd (upd wd w (nI (d + 1))) (w + 1) 0, wv, pr, mc)) : xs_S P (nc, nt, ns, mn, n, na, nI g, nI (w + 1), vs, -1, rs, pc, tc, dc, cp, cf, mt, op, tk, tp, fp, sk, oc, of, bt, ba, rd, sl, ac, af, fa, fw, fv, wt, wd, wv, pr, mc) :=
  ⟨rfl, vp_in_nI hg (by decide), fun e => absurd e (xs_ne hg (by omega) hb h0), fun _ => ax_bnp_t _ hw ht h1 h2 h3 hd hm h4 (br_f (by decide) h)⟩
theorem xs_lv (P : SX → Prop) {g w : Nat} (hg : g < 21) (h0 : fw g = nI w) (h : wpX_leave P (nc, nt, ns, mn, n, na, nI g, nI w, vs, -1, rs, pc, tc, dc, cp, cf, mt, op, tk, tp, fp, sk, oc, of, bt, ba, rd, sl, ac, af, fa, fw, fv, wt, wd, wv, pr, mc)) : xs_S P (nc, nt, ns, mn, n, na, nI g, nI w, vs, -1, rs, pc, tc, dc, cp, cf, mt, op, tk, tp, fp, sk, oc, of, bt, ba, rd, sl, ac, af, fa, fw, fv, wt, wd, wv, pr, mc) :=
  ⟨rfl, vp_in_nI hg (by decide), fun _ => h, fun e => absurd (by rw [nI_clamp (by omega), h0]) e⟩
end
section
variable {NC NT : Nat} {ns mn : Int32} {cp cf mt op tk tp fp sk kd py : Nat → Int32} {KN PN SZ : Nat → Nat}
theorem nx_1 {μ μ' : Nat} {u u1 : SX} {v1 : SY} {q : Nat} {yc yt ys ym no nb ya yv yu yo yk yp : Int32} {ycp ycf ymt ykd ytk ytp ysk yoc ybt ybp ow ed wa yh ypr mo mb : Nat → Int32} {yof sv vr vl : Nat → Int64} (hX : ∀ P : SX → Prop, P u1 → xs_S P u) (hq : q < 2200) (hY : ∀ P : SY → Prop, P v1 → wpY_step P (yc, yt, ys, ym, no, nb, ya, nI (q + 1), yv, yu, yo, yk, yp, -4, ycp, ycf, ymt, ykd, ytk, ytp, ysk, yoc, yof, ybt, ybp, sv, vr, ow, ed, wa, yh, vl, ypr, mo, mb)) (hμ : μ' < μ) (C : cf_V NC NT ns mn cp cf mt op tk tp fp sk kd py KN PN SZ μ' u1 v1 ∨ cf_E NC NT ns mn cp cf mt op tk tp fp sk kd py KN PN SZ μ' u1 v1) : nx_S NC NT ns mn cp cf mt op tk tp fp sk kd py KN PN SZ μ u (yc, yt, ys, ym, no, nb, ya, nI (q + 1), yv, yu, yo, yk, yp, -4, ycp, ycf, ymt, ykd, ytk, ytp, ysk, yoc, yof, ybt, ybp, sv, vr, ow, ed, wa, yh, vl, ypr, mo, mb) :=
  Or.inl ⟨u1, v1, 1, μ', Nat.le_refl _, hμ, fun Q m i hi hl => xl_s hX (by omega) hl, fun Q m hl => ⟨m + 1, yl_s hq hY hl⟩, C⟩
theorem nx_0 {μ μ' : Nat} {u u1 : SX} {v : SY} (hX : ∀ P : SX → Prop, P u1 → xs_S P u) (hμ : μ' < μ) (C : cf_V NC NT ns mn cp cf mt op tk tp fp sk kd py KN PN SZ μ' u1 v ∨ cf_E NC NT ns mn cp cf mt op tk tp fp sk kd py KN PN SZ μ' u1 v) : nx_S NC NT ns mn cp cf mt op tk tp fp sk kd py KN PN SZ μ u v :=
  Or.inl ⟨u1, v, 1, μ', Nat.le_refl _, hμ, fun Q m i hi hl => xl_s hX (by omega) hl, fun Q m hl => ⟨m, hl⟩, C⟩
theorem nx_2 {μ μ' : Nat} {u u0 u1 : SX} {v1 : SY} {q : Nat} {yc yt ys ym no nb ya yv yu yo yk yp : Int32} {ycp ycf ymt ykd ytk ytp ysk yoc ybt ybp ow ed wa yh ypr mo mb : Nat → Int32} {yof sv vr vl : Nat → Int64} (hX : ∀ P : SX → Prop, P u0 → xs_S P u) (hX' : ∀ P : SX → Prop, P u1 → xs_S P u0) (hq : q < 2200) (hY : ∀ P : SY → Prop, P v1 → wpY_step P (yc, yt, ys, ym, no, nb, ya, nI (q + 1), yv, yu, yo, yk, yp, -4, ycp, ycf, ymt, ykd, ytk, ytp, ysk, yoc, yof, ybt, ybp, sv, vr, ow, ed, wa, yh, vl, ypr, mo, mb)) (hμ : μ' + 2 ≤ μ) (C : cf_V NC NT ns mn cp cf mt op tk tp fp sk kd py KN PN SZ μ' u1 v1 ∨ cf_E NC NT ns mn cp cf mt op tk tp fp sk kd py KN PN SZ μ' u1 v1) : nx_S NC NT ns mn cp cf mt op tk tp fp sk kd py KN PN SZ μ u (yc, yt, ys, ym, no, nb, ya, nI (q + 1), yv, yu, yo, yk, yp, -4, ycp, ycf, ymt, ykd, ytk, ytp, ysk, yoc, yof, ybt, ybp, sv, vr, ow, ed, wa, yh, vl, ypr, mo, mb) :=
  Or.inl ⟨u1, v1, 2, μ', by omega, hμ, fun Q m i hi hl => xl_s hX (by omega) (xl_s hX' (by omega) hl), fun Q m hl => ⟨m + 1, yl_s hq hY hl⟩, C⟩
theorem nx_F {μ : Nat} {u u1 : SX} {v1 : SY} {q : Nat} {yc yt ys ym no nb ya yv yu yo yk yp : Int32} {ycp ycf ymt ykd ytk ytp ysk yoc ybt ybp ow ed wa yh ypr mo mb : Nat → Int32} {yof sv vr vl : Nat → Int64} (hX : ∀ P : SX → Prop, P u1 → xs_S P u) (hq : q < 2200) (hY : ∀ P : SY → Prop, P v1 → wpY_step P (yc, yt, ys, ym, no, nb, ya, nI (q + 1), yv, yu, yo, yk, yp, -4, ycp, ycf, ymt, ykd, ytk, ytp, ysk, yoc, yof, ybt, ybp, sv, vr, ow, ed, wa, yh, vl, ypr, mo, mb)) (hμ : 1 ≤ μ) (F : fr_R NC NT ns mn cp cf mt op tk tp fp sk kd py KN PN SZ u1 v1) : nx_S NC NT ns mn cp cf mt op tk tp fp sk kd py KN PN SZ μ u (yc, yt, ys, ym, no, nb, ya, nI (q + 1), yv, yu, yo, yk, yp, -4, ycp, ycf, ymt, ykd, ytk, ytp, ysk, yoc, yof, ybt, ybp, sv, vr, ow, ed, wa, yh, vl, ypr, mo, mb) := by
  refine Or.inr ⟨hμ, u1, v1, hX, fun Q hq' => ⟨2, yl_s hq hY ?_⟩, F⟩
  obtain ⟨N, A, T, Pc, D, ob, na, f, ws, vs, en, ya, yw, yv, yu, rs, oc, bt, ba, rd, ac, af, fa, fw, fv, wt, wd, pr, mc, of, sl, wv, yoc, ybt, ybp, ow, ed, wa, yh, mo, mb, yof, sv, vr, vl, e1, e2, e3, _⟩ := F
  subst e2
  refine yl_e1 ?_ hq'
  rcases e3 with e | e | e | e | e <;> rw [e] <;> decide
variable {N A T Pc D : Nat} {ob : Nat → Bool} {K : List (Bool × Nat × Nat)} {rs : Int64} {oc bt ba rd ac af fa fw fv wt wd pr mc : Nat → Int32} {of sl wv : Nat → Int64} {yoc ybt ybp ow ed wa yh mo mb : Nat → Int32} {yof sv vr vl : Nat → Int64}
theorem cf_Vi {μ : Nat} (r : (rl_R NC NT N A T Pc D ob K cp cf mt op tk tp fp kd KN PN SZ oc of bt ba sl ac af fa fw fv wt wd wv mc yoc yof ybt ybp sv vr ow ed wa yh vl)) (hv : vb_R ob N (wv (kl_X KN K)) (vl (kl_Y KN K))) (h : 802 * (200 - T) + kl_C KN PN SZ K + 1 ≤ μ) : cf_V NC NT ns mn cp cf mt op tk tp fp sk kd py KN PN SZ μ (nI NC, nI NT, ns, mn, nI N, nI A, nI (kl_F K), nI (kl_W K), nI (kl_X KN K + 1), -1, rs, nI Pc, nI T, nI D, cp, cf, mt, op, tk, tp, fp, sk, oc, of, bt, ba, rd, sl, ac, af, fa, fw, fv, wt, wd, wv, pr, mc) (nI NC, nI NT, ns, mn, nI (cu_O ob N), nI (N - cu_O ob N), nI A, nI (kl_Q KN K), nI (kl_Y KN K + 1), nI (kl_F K), nI D, nI T, nI Pc, -4, cp, cf, mt, kd, tk, tp, sk, yoc, yof, ybt, ybp, sv, vr, ow, ed, wa, yh, vl, pe_P pr py Pc, mo, mb) ∨ cf_E NC NT ns mn cp cf mt op tk tp fp sk kd py KN PN SZ μ (nI NC, nI NT, ns, mn, nI N, nI A, nI (kl_F K), nI (kl_W K), nI (kl_X KN K + 1), -1, rs, nI Pc, nI T, nI D, cp, cf, mt, op, tk, tp, fp, sk, oc, of, bt, ba, rd, sl, ac, af, fa, fw, fv, wt, wd, wv, pr, mc) (nI NC, nI NT, ns, mn, nI (cu_O ob N), nI (N - cu_O ob N), nI A, nI (kl_Q KN K), nI (kl_Y KN K + 1), nI (kl_F K), nI D, nI T, nI Pc, -4, cp, cf, mt, kd, tk, tp, sk, yoc, yof, ybt, ybp, sv, vr, ow, ed, wa, yh, vl, pe_P pr py Pc, mo, mb) :=
  Or.inl ⟨N, A, T, Pc, D, ob, K, rs, oc, bt, ba, rd, ac, af, fa, fw, fv, wt, wd, pr, mc, of, sl, wv, yoc, ybt, ybp, ow, ed, wa, yh, mo, mb, yof, sv, vr, vl, rfl, rfl, r, hv, h⟩
theorem cf_Ei {μ t : Nat} (r : (rl_R NC NT N A T Pc D ob K cp cf mt op tk tp fp kd KN PN SZ oc of bt ba sl ac af fa fw fv wt wd wv mc yoc yof ybt ybp sv vr ow ed wa yh vl)) (h1 : t < NT ∧ kl_W K + kl_X KN K + SZ t ≤ 100 * (kl_F K + 1)) (h2 : wt (kl_W K) = nI t) (h3 : wd (kl_W K) = 0) (h4 : wa (kl_Q KN K) = nI (1024 * kl_A K + 8 * t + 0)) (h : 802 * (200 - T) + kl_C KN PN SZ K + 4 * SZ t ≤ μ) : cf_V NC NT ns mn cp cf mt op tk tp fp sk kd py KN PN SZ μ (nI NC, nI NT, ns, mn, nI N, nI A, nI (kl_F K), nI (kl_W K + 1), nI (kl_X KN K), -1, rs, nI Pc, nI T, nI D, cp, cf, mt, op, tk, tp, fp, sk, oc, of, bt, ba, rd, sl, ac, af, fa, fw, fv, wt, wd, wv, pr, mc) (nI NC, nI NT, ns, mn, nI (cu_O ob N), nI (N - cu_O ob N), nI A, nI (kl_Q KN K + 1), nI (kl_Y KN K), nI (kl_F K), nI D, nI T, nI Pc, -4, cp, cf, mt, kd, tk, tp, sk, yoc, yof, ybt, ybp, sv, vr, ow, ed, wa, yh, vl, pe_P pr py Pc, mo, mb) ∨ cf_E NC NT ns mn cp cf mt op tk tp fp sk kd py KN PN SZ μ (nI NC, nI NT, ns, mn, nI N, nI A, nI (kl_F K), nI (kl_W K + 1), nI (kl_X KN K), -1, rs, nI Pc, nI T, nI D, cp, cf, mt, op, tk, tp, fp, sk, oc, of, bt, ba, rd, sl, ac, af, fa, fw, fv, wt, wd, wv, pr, mc) (nI NC, nI NT, ns, mn, nI (cu_O ob N), nI (N - cu_O ob N), nI A, nI (kl_Q KN K + 1), nI (kl_Y KN K), nI (kl_F K), nI D, nI T, nI Pc, -4, cp, cf, mt, kd, tk, tp, sk, yoc, yof, ybt, ybp, sv, vr, ow, ed, wa, yh, vl, pe_P pr py Pc, mo, mb) :=
  Or.inr ⟨N, A, T, Pc, D, ob, K, rs, oc, bt, ba, rd, ac, af, fa, fw, fv, wt, wd, pr, mc, of, sl, wv, yoc, ybt, ybp, ow, ed, wa, yh, mo, mb, yof, sv, vr, vl, t, rfl, rfl, r, h1, h2, h3, h4, h⟩
theorem rl_n (r : (rl_R NC NT N A T Pc D ob K cp cf mt op tk tp fp kd KN PN SZ oc of bt ba sl ac af fa fw fv wt wd wv mc yoc yof ybt ybp sv vr ow ed wa yh vl)) : (kl_F K ≤ 20 ∧ kl_W K + kl_X KN K + 1 ≤ 2100 ∧ kl_W K + kl_X KN K + 1 ≤ 100 * (kl_F K + 1) ∧ kl_Q KN K ≤ kl_W K + kl_F K ∧ kl_Y KN K ≤ kl_X KN K) ∧ (fa (kl_F K) = nI (kl_A K) ∧ kl_A K < A ∧ A ≤ 201 ∧ N ≤ 200 ∧ N + A ≤ T + 1 ∧ T ≤ 200) ∧ (NT ≤ 100 ∧ NC ≤ 6 ∧ Pc ≤ 20 ∧ D ≤ 20 ∧ kl_F K ≤ D) ∧ ∃ b, b ≤ kl_W K ∧ fw (kl_F K) = nI b := by
  obtain ⟨P, H, ⟨S, F0, AF⟩, B⟩ := r
  have a1 := kl_Fb S
  have a2 := kl_b P S
  have a3 := B.1
  exact ⟨⟨a1, by omega, a2, kl_Qb KN K, kl_Yb KN K⟩, ⟨kl_fa S F0.1, kl_Ab a3.1 S, by omega, by omega, a3.2.1, a3.2.2⟩, ⟨P.2.1, P.1, B.2.1.1, B.2.1.2.2, B.2.1.2.1⟩, kl_fw S F0.2.1⟩
theorem rl_cg {fa' fw' fv' wt' wd' wa' yh' : Nat → Int32} {wv' vl' : Nat → Int64} (r : (rl_R NC NT N A T Pc D ob K cp cf mt op tk tp fp kd KN PN SZ oc of bt ba sl ac af fa fw fv wt wd wv mc yoc yof ybt ybp sv vr ow ed wa yh vl)) (h1 : ∀ i, i < kl_W K → wt' i = wt i ∧ wd' i = wd i) (h2 : ∀ i, i ≤ kl_F K → fa' i = fa i ∧ fw' i = fw i ∧ fv' i = fv i) (h3 : ∀ i, i < kl_X KN K → wv' i = wv i) (h4 : ∀ i, i < kl_Q KN K → wa' i = wa i ∧ yh' i = yh i) (h5 : ∀ i, i < kl_Y KN K → vl' i = vl i) : (rl_R NC NT N A T Pc D ob K cp cf mt op tk tp fp kd KN PN SZ oc of bt ba sl ac af fa' fw' fv' wt' wd' wv' mc yoc yof ybt ybp sv vr ow ed wa' yh' vl') := by
  obtain ⟨P, H, ⟨S, F0, AF⟩, B⟩ := r
  have z := h2 0 (Nat.zero_le _)
  exact ⟨P, H, ⟨kl_cg (fun _ _ h => h) (Nat.le_refl _) h1 (fun i _ hi => h2 i hi) h3 h4 h5 S, ⟨z.1.trans F0.1, z.2.1.trans F0.2.1, z.2.2.trans F0.2.2⟩, AF⟩, B⟩
def en_F (NT : Nat) (K : List (Bool × Nat × Nat)) (KN SZ : Nat → Nat) (t d : Nat) (wt wd wa : Nat → Int32) : Prop :=
  (t < NT ∧ kl_W K + kl_X KN K + SZ t ≤ 100 * (kl_F K + 1)) ∧ wt (kl_W K) = nI t ∧ wd (kl_W K) = nI d ∧ wa (kl_Q KN K) = nI (1024 * kl_A K + 8 * t + d)
theorem rl_ent {t d : Nat} (r : (rl_R NC NT N A T Pc D ob K cp cf mt op tk tp fp kd KN PN SZ oc of bt ba sl ac af fa fw fv wt wd wv mc yoc yof ybt ybp sv vr ow ed wa yh vl)) (h0 : t < NT ∧ kl_W K + kl_X KN K + SZ t ≤ 100 * (kl_F K + 1)) (hd : 1 ≤ d ∧ d ≤ kl_d (KN t)) (h1 : wt (kl_W K) = nI t) (h2 : wd (kl_W K) = nI d) (h3 : ¬ (KN t = 25 ∧ d = 2) → wa (kl_Q KN K) = nI (1024 * kl_A K + 8 * t + d)) (h4 : ∀ j, j < kl_ny (KN t) d → vb_R ob N (wv (kl_X KN K + j)) (vl (kl_Y KN K + j))) : (rl_R NC NT N A T Pc D ob ((true, t, d) :: K) cp cf mt op tk tp fp kd KN PN SZ oc of bt ba sl ac af fa fw fv wt wd wv mc yoc yof ybt ybp sv vr ow ed wa yh vl) := by
  obtain ⟨P, H, ⟨S, F0, AF⟩, B⟩ := r
  exact ⟨P, H, ⟨⟨⟨h0.1, hd.1, hd.2, h0.2⟩, h1, h2, h3, h4, S⟩, F0, AF⟩, B⟩
theorem rl_tl {t d : Nat} (r : (rl_R NC NT N A T Pc D ob ((true, t, d) :: K) cp cf mt op tk tp fp kd KN PN SZ oc of bt ba sl ac af fa fw fv wt wd wv mc yoc yof ybt ybp sv vr ow ed wa yh vl)) : (rl_R NC NT N A T Pc D ob K cp cf mt op tk tp fp kd KN PN SZ oc of bt ba sl ac af fa fw fv wt wd wv mc yoc yof ybt ybp sv vr ow ed wa yh vl) ∧ ((t < NT ∧ kl_W K + kl_X KN K + SZ t ≤ 100 * (kl_F K + 1)) ∧ (1 ≤ d ∧ d ≤ kl_d (KN t)) ∧ wt (kl_W K) = nI t ∧ wd (kl_W K) = nI d ∧ (¬ (KN t = 25 ∧ d = 2) → wa (kl_Q KN K) = nI (1024 * kl_A K + 8 * t + d)) ∧ ∀ j, j < kl_ny (KN t) d → vb_R ob N (wv (kl_X KN K + j)) (vl (kl_Y KN K + j))) := by
  obtain ⟨P, H, ⟨⟨h0, h1, h2, h3, h4, S⟩, F0, AF⟩, B⟩ := r
  exact ⟨⟨P, H, ⟨S, F0, AF⟩, B⟩, ⟨h0.1, h0.2.2.2⟩, ⟨h0.2.1, h0.2.2.1⟩, h1, h2, h3, h4⟩
theorem rl_tm (r : (rl_R NC NT N A T Pc D ob K cp cf mt op tk tp fp kd KN PN SZ oc of bt ba sl ac af fa fw fv wt wd wv mc yoc yof ybt ybp sv vr ow ed wa yh vl)) {t : Nat} (ht : t < NT) : pg_T NC t op tk tp fp kd KN PN SZ := r.1.2.2.2 t ht
theorem rl_sz (r : (rl_R NC NT N A T Pc D ob K cp cf mt op tk tp fp kd KN PN SZ oc of bt ba sl ac af fa fw fv wt wd wv mc yoc yof ybt ybp sv vr ow ed wa yh vl)) {t : Nat} (ht : t < NT) : KN t / 10 + 1 ≤ SZ t ∧ SZ t ≤ 100 ∧ t < 100 := by
  have T := rl_tm r ht
  have s := pg_sd r.1 ht (KN t / 10) (Nat.le_refl _)
  have z := T.2.2.2.2.2.2
  have := r.1.2.1
  omega
theorem rl_turn (r : (rl_R NC NT N A T Pc D ob K cp cf mt op tk tp fp kd KN PN SZ oc of bt ba sl ac af fa fw fv wt wd wv mc yoc yof ybt ybp sv vr ow ed wa yh vl)) (h : T < 200) : (rl_R NC NT N A (T + 1) Pc D ob K cp cf mt op tk tp fp kd KN PN SZ oc of bt ba sl ac af fa fw fv wt wd wv mc yoc yof ybt ybp sv vr ow ed wa yh vl) := by
  obtain ⟨P, H, S, B⟩ := r
  exact ⟨P, H, S, ⟨B.1.1, by have := B.1.2.1; omega, by omega⟩, B.2⟩
theorem fr_n {na f ws vs en ya yw yv yu : Int32} {oc' bt' ba' ac' af' fa' fw' fv' wt' wd' : Nat → Int32} {of' sl' wv' : Nat → Int64} {ybt' ybp' ow' ed' wa' yh' : Nat → Int32} {yof' sv' vr' vl' : Nat → Int64} (r : (rl_R NC NT N A T Pc D ob K cp cf mt op tk tp fp kd KN PN SZ oc of bt ba sl ac af fa fw fv wt wd wv mc yoc yof ybt ybp sv vr ow ed wa yh vl)) {T' D' : Nat} (he : en = 1 ∨ en = 2 ∨ en = 3 ∨ en = 4) : fr_R NC NT ns mn cp cf mt op tk tp fp sk kd py KN PN SZ (nI NC, nI NT, ns, mn, nI N, na, f, ws, vs, en, rs, nI Pc, nI T', nI D', cp, cf, mt, op, tk, tp, fp, sk, oc', of', bt', ba', rd, sl', ac', af', fa', fw', fv', wt', wd', wv', pr, mc) (nI NC, nI NT, ns, mn, nI (cu_O ob N), nI (N - cu_O ob N), ya, yw, yv, yu, nI D', nI T', nI Pc, en, cp, cf, mt, kd, tk, tp, sk, yoc, yof', ybt', ybp', sv', vr', ow', ed', wa', yh', vl', pe_P pr py Pc, mo, mb) := by
  obtain ⟨P, H, S, B⟩ := r
  refine ⟨N, A, T', Pc, D', ob, na, f, ws, vs, en, ya, yw, yv, yu, rs, oc', bt', ba', rd, ac', af', fa', fw', fv', wt', wd', pr, mc, of', sl', wv', yoc, ybt', ybp', ow', ed', wa', yh', mo, mb, yof', sv', vr', vl', rfl, rfl, Or.inr he, ⟨?_, B.2.1.1⟩, B.2.2, fun e => ?_⟩
  · have := B.1; omega
  · rcases he with h | h | h | h <;> rw [e] at h <;> exact absurd h (by decide)
end
end
section
section
variable {NC NT : Nat} {ns mn : Int32} {cp cf mt op tk tp fp sk kd py : Nat → Int32} {KN PN SZ : Nat → Nat}
variable {N A T Pc D : Nat} {ob : Nat → Bool} {K : List (Bool × Nat × Nat)} {rs : Int64} {oc bt ba rd ac af fa fw fv wt wd pr mc : Nat → Int32} {of sl wv : Nat → Int64} {yoc ybt ybp ow ed wa yh mo mb : Nat → Int32} {yof sv vr vl : Nat → Int64}
variable {μ t : Nat}
theorem nx_U {d : Nat} {u1 : SX} {v1 : SY} {vs yv : Int32} {μ' : Nat} (r : (rl_R NC NT N A T Pc D ob K cp cf mt op tk tp fp kd KN PN SZ oc of bt ba sl ac af fa fw fv wt wd wv mc yoc yof ybt ybp sv vr ow ed wa yh vl)) (E : en_F NT K KN SZ t d wt wd wa) (hf : pg_fp (KN t) ≤ d) (hd : d ≤ 3) (hX : ∀ P : SX → Prop, P u1 → wpX_finish P (nI NC, nI NT, ns, mn, nI N, nI A, nI (kl_F K), nI (kl_W K + 1), vs, -1, rs, nI Pc, nI T, nI D, cp, cf, mt, op, tk, tp, fp, sk, oc, of, bt, ba, rd, sl, ac, af, fa, fw, fv, wt, wd, wv, pr, mc)) (hY : ∀ P : SY → Prop, P v1 → wpY_step P (nI NC, nI NT, ns, mn, nI (cu_O ob N), nI (N - cu_O ob N), nI A, nI (kl_Q KN K + 1), yv, nI (kl_F K), nI D, nI T, nI Pc, -4, cp, cf, mt, kd, tk, tp, sk, yoc, yof, ybt, ybp, sv, vr, ow, ed, wa, yh, vl, pe_P pr py Pc, mo, mb)) (hμ : μ' < μ) (C : cf_V NC NT ns mn cp cf mt op tk tp fp sk kd py KN PN SZ μ' u1 v1 ∨ cf_E NC NT ns mn cp cf mt op tk tp fp sk kd py KN PN SZ μ' u1 v1) : nx_S NC NT ns mn cp cf mt op tk tp fp sk kd py KN PN SZ μ (nI NC, nI NT, ns, mn, nI N, nI A, nI (kl_F K), nI (kl_W K + 1), vs, -1, rs, nI Pc, nI T, nI D, cp, cf, mt, op, tk, tp, fp, sk, oc, of, bt, ba, rd, sl, ac, af, fa, fw, fv, wt, wd, wv, pr, mc) (nI NC, nI NT, ns, mn, nI (cu_O ob N), nI (N - cu_O ob N), nI A, nI (kl_Q KN K + 1), yv, nI (kl_F K), nI D, nI T, nI Pc, -4, cp, cf, mt, kd, tk, tp, sk, yoc, yof, ybt, ybp, sv, vr, ow, ed, wa, yh, vl, pe_P pr py Pc, mo, mb) := by
  obtain ⟨⟨n1, n2, n3, n4, n5⟩, ⟨n6, n7, n8, n9, n10, n11⟩, ⟨n12, n13, n14, n15, n16⟩, b, nb1, nb2⟩ := rl_n r
  obtain ⟨⟨e1, e2⟩, e3, e4, e5⟩ := E
  exact nx_1 (fun P hP => xs_fin P (by omega) (by omega) (by omega) nb1 nb2 e3 e4 (rl_tm r e1).2.2.2.1 hf hd (hX P hP)) (by omega) hY hμ C
theorem nx_UF {d : Nat} {u1 : SX} {v1 : SY} {vs yv : Int32} (r : (rl_R NC NT N A T Pc D ob K cp cf mt op tk tp fp kd KN PN SZ oc of bt ba sl ac af fa fw fv wt wd wv mc yoc yof ybt ybp sv vr ow ed wa yh vl)) (E : en_F NT K KN SZ t d wt wd wa) (hf : pg_fp (KN t) ≤ d) (hd : d ≤ 3) (hX : ∀ P : SX → Prop, P u1 → wpX_finish P (nI NC, nI NT, ns, mn, nI N, nI A, nI (kl_F K), nI (kl_W K + 1), vs, -1, rs, nI Pc, nI T, nI D, cp, cf, mt, op, tk, tp, fp, sk, oc, of, bt, ba, rd, sl, ac, af, fa, fw, fv, wt, wd, wv, pr, mc)) (hY : ∀ P : SY → Prop, P v1 → wpY_step P (nI NC, nI NT, ns, mn, nI (cu_O ob N), nI (N - cu_O ob N), nI A, nI (kl_Q KN K + 1), yv, nI (kl_F K), nI D, nI T, nI Pc, -4, cp, cf, mt, kd, tk, tp, sk, yoc, yof, ybt, ybp, sv, vr, ow, ed, wa, yh, vl, pe_P pr py Pc, mo, mb)) (hμ : 1 ≤ μ) (F : fr_R NC NT ns mn cp cf mt op tk tp fp sk kd py KN PN SZ u1 v1) : nx_S NC NT ns mn cp cf mt op tk tp fp sk kd py KN PN SZ μ (nI NC, nI NT, ns, mn, nI N, nI A, nI (kl_F K), nI (kl_W K + 1), vs, -1, rs, nI Pc, nI T, nI D, cp, cf, mt, op, tk, tp, fp, sk, oc, of, bt, ba, rd, sl, ac, af, fa, fw, fv, wt, wd, wv, pr, mc) (nI NC, nI NT, ns, mn, nI (cu_O ob N), nI (N - cu_O ob N), nI A, nI (kl_Q KN K + 1), yv, nI (kl_F K), nI D, nI T, nI Pc, -4, cp, cf, mt, kd, tk, tp, sk, yoc, yof, ybt, ybp, sv, vr, ow, ed, wa, yh, vl, pe_P pr py Pc, mo, mb) := by
  obtain ⟨⟨n1, n2, n3, n4, n5⟩, ⟨n6, n7, n8, n9, n10, n11⟩, ⟨n12, n13, n14, n15, n16⟩, b, nb1, nb2⟩ := rl_n r
  obtain ⟨⟨e1, e2⟩, e3, e4, e5⟩ := E
  exact nx_F (fun P hP => xs_fin P (by omega) (by omega) (by omega) nb1 nb2 e3 e4 (rl_tm r e1).2.2.2.1 hf hd (hX P hP)) (by omega) hY hμ F
theorem cf_put {x y : Int64} (r : (rl_R NC NT N A T Pc D ob K cp cf mt op tk tp fp kd KN PN SZ oc of bt ba sl ac af fa fw fv wt wd wv mc yoc yof ybt ybp sv vr ow ed wa yh vl)) (hv : vb_R ob N x y) (h : 802 * (200 - T) + kl_C KN PN SZ K + 1 ≤ μ) : cf_V NC NT ns mn cp cf mt op tk tp fp sk kd py KN PN SZ μ (nI NC, nI NT, ns, mn, nI N, nI A, nI (kl_F K), nI (kl_W K), nI (kl_X KN K + 1), -1, rs, nI Pc, nI T, nI D, cp, cf, mt, op, tk, tp, fp, sk, oc, of, bt, ba, rd, sl, ac, af, fa, fw, fv, wt, wd, vp_updL wv (kl_X KN K) x, pr, mc) (nI NC, nI NT, ns, mn, nI (cu_O ob N), nI (N - cu_O ob N), nI A, nI (kl_Q KN K), nI (kl_Y KN K + 1), nI (kl_F K), nI D, nI T, nI Pc, -4, cp, cf, mt, kd, tk, tp, sk, yoc, yof, ybt, ybp, sv, vr, ow, ed, wa, yh, vp_updL vl (kl_Y KN K) y, pe_P pr py Pc, mo, mb) ∨ cf_E NC NT ns mn cp cf mt op tk tp fp sk kd py KN PN SZ μ (nI NC, nI NT, ns, mn, nI N, nI A, nI (kl_F K), nI (kl_W K), nI (kl_X KN K + 1), -1, rs, nI Pc, nI T, nI D, cp, cf, mt, op, tk, tp, fp, sk, oc, of, bt, ba, rd, sl, ac, af, fa, fw, fv, wt, wd, vp_updL wv (kl_X KN K) x, pr, mc) (nI NC, nI NT, ns, mn, nI (cu_O ob N), nI (N - cu_O ob N), nI A, nI (kl_Q KN K), nI (kl_Y KN K + 1), nI (kl_F K), nI D, nI T, nI Pc, -4, cp, cf, mt, kd, tk, tp, sk, yoc, yof, ybt, ybp, sv, vr, ow, ed, wa, yh, vp_updL vl (kl_Y KN K) y, pe_P pr py Pc, mo, mb) :=
  cf_Vi (rl_cg r (fun _ _ => ⟨rfl, rfl⟩) (fun _ _ => ⟨rfl, rfl, rfl⟩) (fun i hi => pk_uLn (by omega)) (fun _ _ => ⟨rfl, rfl⟩) (fun i hi => pk_uLn (by omega))) (by rw [pk_uLs, pk_uLs]; exact hv) h
/-! leaves -/
theorem op_0 (r : (rl_R NC NT N A T Pc D ob K cp cf mt op tk tp fp kd KN PN SZ oc of bt ba sl ac af fa fw fv wt wd wv mc yoc yof ybt ybp sv vr ow ed wa yh vl)) (E : en_F NT K KN SZ t 0 wt wd wa) (hk : KN t = 0) (hm : 802 * (200 - T) + kl_C KN PN SZ K + 1 < μ) : nx_S NC NT ns mn cp cf mt op tk tp fp sk kd py KN PN SZ μ (nI NC, nI NT, ns, mn, nI N, nI A, nI (kl_F K), nI (kl_W K + 1), nI (kl_X KN K), -1, rs, nI Pc, nI T, nI D, cp, cf, mt, op, tk, tp, fp, sk, oc, of, bt, ba, rd, sl, ac, af, fa, fw, fv, wt, wd, wv, pr, mc) (nI NC, nI NT, ns, mn, nI (cu_O ob N), nI (N - cu_O ob N), nI A, nI (kl_Q KN K + 1), nI (kl_Y KN K), nI (kl_F K), nI D, nI T, nI Pc, -4, cp, cf, mt, kd, tk, tp, sk, yoc, yof, ybt, ybp, sv, vr, ow, ed, wa, yh, vl, pe_P pr py Pc, mo, mb) := by
  obtain ⟨⟨n1, n2, n3, n4, n5⟩, ⟨n6, n7, n8, n9, n10, n11⟩, ⟨n12, n13, n14, n15, n16⟩, b, nb1, nb2⟩ := rl_n r
  obtain ⟨⟨e1, e2⟩, e3, e4, e5⟩ := E
  have Z := rl_sz r e1
  obtain ⟨v1, v2, v3, v4, v5, v6, v7⟩ := rl_tm r e1
  rw [hk] at v2 v3 v4 v5 v6 Z
  exact nx_U r ⟨⟨e1, e2⟩, e3, e4, e5⟩ (by rw [hk]; decide) (by omega) (fun P hP => ax_fin_0 P (by omega) Z.2.2 e3 v3 (ax_pushInt P (by omega) hP)) (fun P hP => ay_step_E _ (by omega) (by omega) Z.2.2 e5 (ay_bg_0 P Z.2.2 v2 (by omega) hP)) hm (cf_put r (Or.inr (Or.inl ⟨tk t, rfl, rfl⟩)) (Nat.le_refl _))
theorem op_1 (r : (rl_R NC NT N A T Pc D ob K cp cf mt op tk tp fp kd KN PN SZ oc of bt ba sl ac af fa fw fv wt wd wv mc yoc yof ybt ybp sv vr ow ed wa yh vl)) (E : en_F NT K KN SZ t 0 wt wd wa) (hk : KN t = 1) (hm : 802 * (200 - T) + kl_C KN PN SZ K + 1 < μ) : nx_S NC NT ns mn cp cf mt op tk tp fp sk kd py KN PN SZ μ (nI NC, nI NT, ns, mn, nI N, nI A, nI (kl_F K), nI (kl_W K + 1), nI (kl_X KN K), -1, rs, nI Pc, nI T, nI D, cp, cf, mt, op, tk, tp, fp, sk, oc, of, bt, ba, rd, sl, ac, af, fa, fw, fv, wt, wd, wv, pr, mc) (nI NC, nI NT, ns, mn, nI (cu_O ob N), nI (N - cu_O ob N), nI A, nI (kl_Q KN K + 1), nI (kl_Y KN K), nI (kl_F K), nI D, nI T, nI Pc, -4, cp, cf, mt, kd, tk, tp, sk, yoc, yof, ybt, ybp, sv, vr, ow, ed, wa, yh, vl, pe_P pr py Pc, mo, mb) := by
  obtain ⟨⟨n1, n2, n3, n4, n5⟩, ⟨n6, n7, n8, n9, n10, n11⟩, ⟨n12, n13, n14, n15, n16⟩, b, nb1, nb2⟩ := rl_n r
  obtain ⟨⟨e1, e2⟩, e3, e4, e5⟩ := E
  have Z := rl_sz r e1
  obtain ⟨v1, v2, v3, v4, v5, v6, v7⟩ := rl_tm r e1
  rw [hk] at v2 v3 v4 v5 v6 Z
  exact nx_U r ⟨⟨e1, e2⟩, e3, e4, e5⟩ (by rw [hk]; decide) (by omega) (fun P hP => ax_fin_1 P (by omega) Z.2.2 e3 v3 (by rw [vb_nil]; exact ax_push P (by omega) hP)) (fun P hP => ay_step_E _ (by omega) (by omega) Z.2.2 e5 (ay_bg_1 P Z.2.2 v2 (by omega) hP)) hm (cf_put r (Or.inl ⟨rfl, rfl⟩) (Nat.le_refl _))
theorem op_2 (r : (rl_R NC NT N A T Pc D ob K cp cf mt op tk tp fp kd KN PN SZ oc of bt ba sl ac af fa fw fv wt wd wv mc yoc yof ybt ybp sv vr ow ed wa yh vl)) (E : en_F NT K KN SZ t 0 wt wd wa) (hk : KN t = 2) (hm : 802 * (200 - T) + kl_C KN PN SZ K + 1 < μ) : nx_S NC NT ns mn cp cf mt op tk tp fp sk kd py KN PN SZ μ (nI NC, nI NT, ns, mn, nI N, nI A, nI (kl_F K), nI (kl_W K + 1), nI (kl_X KN K), -1, rs, nI Pc, nI T, nI D, cp, cf, mt, op, tk, tp, fp, sk, oc, of, bt, ba, rd, sl, ac, af, fa, fw, fv, wt, wd, wv, pr, mc) (nI NC, nI NT, ns, mn, nI (cu_O ob N), nI (N - cu_O ob N), nI A, nI (kl_Q KN K + 1), nI (kl_Y KN K), nI (kl_F K), nI D, nI T, nI Pc, -4, cp, cf, mt, kd, tk, tp, sk, yoc, yof, ybt, ybp, sv, vr, ow, ed, wa, yh, vl, pe_P pr py Pc, mo, mb) := by
  obtain ⟨⟨n1, n2, n3, n4, n5⟩, ⟨n6, n7, n8, n9, n10, n11⟩, ⟨n12, n13, n14, n15, n16⟩, b, nb1, nb2⟩ := rl_n r
  obtain ⟨⟨e1, e2⟩, e3, e4, e5⟩ := E
  have Z := rl_sz r e1
  obtain ⟨v1, v2, v3, v4, v5, v6, v7⟩ := rl_tm r e1
  rw [hk] at v2 v3 v4 v5 v6 Z
  exact nx_U r ⟨⟨e1, e2⟩, e3, e4, e5⟩ (by rw [hk]; decide) (by omega) (fun P hP => ax_fin_2 P (by omega) Z.2.2 e3 v3 (ax_pushSlot (j := 6) P (by omega) (by omega) (by omega) (by omega) n6 hP)) (fun P hP => ay_step_E _ (by omega) (by omega) Z.2.2 e5 (ay_bg_2 P Z.2.2 v2 (by omega) (by omega) hP)) hm (cf_put r (r.2.1.2.2 _ n7).1 (Nat.le_refl _))
theorem op_3 (r : (rl_R NC NT N A T Pc D ob K cp cf mt op tk tp fp kd KN PN SZ oc of bt ba sl ac af fa fw fv wt wd wv mc yoc yof ybt ybp sv vr ow ed wa yh vl)) (E : en_F NT K KN SZ t 0 wt wd wa) (hk : KN t = 3) (hm : 802 * (200 - T) + kl_C KN PN SZ K + 1 < μ) : nx_S NC NT ns mn cp cf mt op tk tp fp sk kd py KN PN SZ μ (nI NC, nI NT, ns, mn, nI N, nI A, nI (kl_F K), nI (kl_W K + 1), nI (kl_X KN K), -1, rs, nI Pc, nI T, nI D, cp, cf, mt, op, tk, tp, fp, sk, oc, of, bt, ba, rd, sl, ac, af, fa, fw, fv, wt, wd, wv, pr, mc) (nI NC, nI NT, ns, mn, nI (cu_O ob N), nI (N - cu_O ob N), nI A, nI (kl_Q KN K + 1), nI (kl_Y KN K), nI (kl_F K), nI D, nI T, nI Pc, -4, cp, cf, mt, kd, tk, tp, sk, yoc, yof, ybt, ybp, sv, vr, ow, ed, wa, yh, vl, pe_P pr py Pc, mo, mb) := by
  obtain ⟨⟨n1, n2, n3, n4, n5⟩, ⟨n6, n7, n8, n9, n10, n11⟩, ⟨n12, n13, n14, n15, n16⟩, b, nb1, nb2⟩ := rl_n r
  obtain ⟨⟨e1, e2⟩, e3, e4, e5⟩ := E
  have Z := rl_sz r e1
  obtain ⟨v1, v2, v3, v4, v5, v6, v7⟩ := rl_tm r e1
  rw [hk] at v2 v3 v4 v5 v6 Z
  obtain ⟨j, hj, ej⟩ := v5.1 (Or.inl rfl)
  exact nx_U r ⟨⟨e1, e2⟩, e3, e4, e5⟩ (by rw [hk]; decide) (by omega) (fun P hP => ax_fin_3 P (by omega) Z.2.2 e3 v3 (by rw [ej]; exact ax_pushSlot P (by omega) (by omega) (by omega) (by omega) n6 hP)) (fun P hP => ay_step_E _ (by omega) (by omega) Z.2.2 e5 (ay_bg_3 P Z.2.2 v2 (by omega) (by omega) ej hj hP)) hm (cf_put r ((r.2.1.2.2 _ n7).2.1 j hj) (Nat.le_refl _))
/-! where a field lies: both sides alike -/
theorem op_fi (r : (rl_R NC NT N A T Pc D ob K cp cf mt op tk tp fp kd KN PN SZ oc of bt ba sl ac af fa fw fv wt wd wv mc yoc yof ybt ybp sv vr ow ed wa yh vl)) {k : Nat} (hk : k < 4) : ((∀ (vs ws : Int32) (Q : Int32 → Prop), Q (-1) → wpX_fieldIndex Q (nI NC, nI NT, ns, mn, nI N, nI A, nI (kl_F K), ws, vs, -1, rs, nI Pc, nI T, nI D, cp, cf, mt, op, tk, tp, fp, sk, oc, of, bt, ba, rd, sl, ac, af, fa, fw, fv, wt, wd, wv, pr, mc) (nI k)) ∧ (∀ (yv yw : Int32) (Q : Int32 → Prop), Q (-1) → wpY_fieldPlace Q (nI NC, nI NT, ns, mn, nI (cu_O ob N), nI (N - cu_O ob N), nI A, yw, yv, nI (kl_F K), nI D, nI T, nI Pc, -4, cp, cf, mt, kd, tk, tp, sk, yoc, yof, ybt, ybp, sv, vr, ow, ed, wa, yh, vl, pe_P pr py Pc, mo, mb) (nI k) (nI (kl_A K)))) ∨ (∃ o, o < N ∧ ob o = true ∧ (∀ (vs ws : Int32) (Q : Int32 → Prop), Q (nI (o * 4 + k)) → wpX_fieldIndex Q (nI NC, nI NT, ns, mn, nI N, nI A, nI (kl_F K), ws, vs, -1, rs, nI Pc, nI T, nI D, cp, cf, mt, op, tk, tp, fp, sk, oc, of, bt, ba, rd, sl, ac, af, fa, fw, fv, wt, wd, wv, pr, mc) (nI k)) ∧ (∀ (yv yw : Int32) (Q : Int32 → Prop), Q (nI (4 * cu_g ob o + k)) → wpY_fieldPlace Q (nI NC, nI NT, ns, mn, nI (cu_O ob N), nI (N - cu_O ob N), nI A, yw, yv, nI (kl_F K), nI D, nI T, nI Pc, -4, cp, cf, mt, kd, tk, tp, sk, yoc, yof, ybt, ybp, sv, vr, ow, ed, wa, yh, vl, pe_P pr py Pc, mo, mb) (nI k) (nI (kl_A K)))) := by
  obtain ⟨⟨n1, n2, n3, n4, n5⟩, ⟨n6, n7, n8, n9, n10, n11⟩, ⟨n12, n13, n14, n15, n16⟩, b, nb1, nb2⟩ := rl_n r
  have s := (r.2.1.2.2 _ n7).1
  by_cases h4 : vb_T (sl (kl_A K * 7 + 6)) = 4
  · obtain ⟨o, ho, h0, hx, hy⟩ := vB_4 s h4
    obtain ⟨⟨c, hc, o1, o2⟩, _⟩ := r.2.1.1 o ho h0
    obtain ⟨m, hm, cf1⟩ := (r.1.2.2.1 c hc).2.1
    have g1 := cu_gt h0 ho
    have g2 := cu_le ob N
    by_cases hkm : k < m
    · exact Or.inr ⟨o, ho, h0, fun vs ws Q hQ => ax_fi_o Q (by omega) (by omega) n6 hx (by omega) o1 (by omega) cf1 hkm hm hQ, fun yv yw Q hQ => ay_fp_o Q (by omega) hy (by omega) o2 (by omega) cf1 hkm hm hQ⟩
    · exact Or.inl ⟨fun vs ws Q hQ => ax_fi_s Q (by omega) (by omega) n6 hx (by omega) o1 (by omega) cf1 (by omega) hk hQ, fun yv yw Q hQ => ay_fp_s Q (by omega) hy (by omega) o2 (by omega) cf1 (by omega) hk hQ⟩
  · have h4' : ¬ vb_T (sv (kl_A K)) = 4 := by rw [← vB_T s]; exact h4
    exact Or.inl ⟨fun vs ws Q hQ => ax_fi_n Q (by omega) (by omega) n6 h4 hQ, fun yv yw Q hQ => ay_fp_n Q (by omega) h4' hQ⟩
theorem op_4 (r : (rl_R NC NT N A T Pc D ob K cp cf mt op tk tp fp kd KN PN SZ oc of bt ba sl ac af fa fw fv wt wd wv mc yoc yof ybt ybp sv vr ow ed wa yh vl)) (E : en_F NT K KN SZ t 0 wt wd wa) (hk : KN t = 4) (hm : 802 * (200 - T) + kl_C KN PN SZ K + 1 < μ) : nx_S NC NT ns mn cp cf mt op tk tp fp sk kd py KN PN SZ μ (nI NC, nI NT, ns, mn, nI N, nI A, nI (kl_F K), nI (kl_W K + 1), nI (kl_X KN K), -1, rs, nI Pc, nI T, nI D, cp, cf, mt, op, tk, tp, fp, sk, oc, of, bt, ba, rd, sl, ac, af, fa, fw, fv, wt, wd, wv, pr, mc) (nI NC, nI NT, ns, mn, nI (cu_O ob N), nI (N - cu_O ob N), nI A, nI (kl_Q KN K + 1), nI (kl_Y KN K), nI (kl_F K), nI D, nI T, nI Pc, -4, cp, cf, mt, kd, tk, tp, sk, yoc, yof, ybt, ybp, sv, vr, ow, ed, wa, yh, vl, pe_P pr py Pc, mo, mb) := by
  obtain ⟨⟨n1, n2, n3, n4, n5⟩, ⟨n6, n7, n8, n9, n10, n11⟩, ⟨n12, n13, n14, n15, n16⟩, b, nb1, nb2⟩ := rl_n r
  obtain ⟨⟨e1, e2⟩, e3, e4, e5⟩ := E
  have Z := rl_sz r e1
  obtain ⟨v1, v2, v3, v4, v5, v6, v7⟩ := rl_tm r e1
  rw [hk] at v2 v3 v4 v5 v6 Z
  obtain ⟨k, hk4, ek⟩ := v5.2.1 (Or.inl rfl)
  rcases op_fi (py := py) (ns := ns) (mn := mn) (sk := sk) (rs := rs) (rd := rd) (pr := pr) (mo := mo) (mb := mb) r hk4 with ⟨fx, fy⟩ | ⟨o, ho, h0, fx, fy⟩
  · exact nx_UF r ⟨⟨e1, e2⟩, e3, e4, e5⟩ (by rw [hk]; decide) (by omega) (fun P hP => ax_fin_4 P (by omega) Z.2.2 e3 v3 (by rw [ek]; exact ax_field_s P (fx _ _) hP)) (fun P hP => ay_step_E _ (by omega) (by omega) Z.2.2 e5 (ay_bg_4s P Z.2.2 v2 (by omega) (by rw [ek]; exact fy _ _) hP)) (by omega) (fr_n r (Or.inl rfl))
  · have g1 := cu_gt h0 ho
    have g2 := cu_le ob N
    exact nx_U r ⟨⟨e1, e2⟩, e3, e4, e5⟩ (by rw [hk]; decide) (by omega) (fun P hP => ax_fin_4 P (by omega) Z.2.2 e3 v3 (by rw [ek]; exact ax_field_o P (fx _ _) (by omega) (by omega) hP)) (fun P hP => ay_step_E _ (by omega) (by omega) Z.2.2 e5 (ay_bg_4o P Z.2.2 v2 (by omega) (by omega) (by rw [ek]; exact fy _ _) hP)) hm (cf_put r ((r.2.1.1 o ho h0).2 k hk4) (Nat.le_refl _))
end
end
section
/-! a new thing -/
def cu_a (ob : Nat → Bool) (N : Nat) (b : Bool) : Nat → Bool := fun s => if s = N then b else ob s
theorem cu_an (ob : Nat → Bool) (N : Nat) (b : Bool) : cu_a ob N b N = b := if_pos rfl
theorem cu_al (ob : Nat → Bool) (N : Nat) (b : Bool) : ∀ t, t < N → cu_a ob N b t = ob t := fun t h => if_neg (by omega)
theorem cu_at (ob : Nat → Bool) (N : Nat) : cu_O (cu_a ob N true) (N + 1) = cu_O ob N + 1 := by
  rw [cu_st (cu_an ob N true), cu_cg (cu_al ob N true)]
theorem cu_af (ob : Nat → Bool) (N : Nat) : cu_O (cu_a ob N false) (N + 1) = cu_O ob N := by
  rw [cu_sf (cu_an ob N false), cu_cg (cu_al ob N false)]
theorem cu_at' (ob : Nat → Bool) (N : Nat) : N + 1 - cu_O (cu_a ob N true) (N + 1) = N - cu_O ob N := by
  have := cu_le ob N
  rw [cu_at]; omega
theorem cu_af' (ob : Nat → Bool) (N : Nat) : N + 1 - cu_O (cu_a ob N false) (N + 1) = N - cu_O ob N + 1 := by
  have := cu_le ob N
  rw [cu_af]; omega
theorem cu_agt (ob : Nat → Bool) (N : Nat) : cu_g (cu_a ob N true) N = cu_O ob N := by
  unfold cu_g
  rw [if_pos (cu_an ob N true), cu_cg (cu_al ob N true)]
theorem cu_agf (ob : Nat → Bool) (N : Nat) : cu_g (cu_a ob N false) N = N - cu_O ob N := by
  unfold cu_g
  rw [if_neg (by rw [cu_an]; exact Bool.noConfusion), cu_cg (cu_al ob N false)]
theorem cu_agl {ob : Nat → Bool} {N t : Nat} (b : Bool) (h : t < N) : cu_g (cu_a ob N b) t = cu_g ob t := cu_gcg (cu_al ob N b) h
theorem cu_aR {ob : Nat → Bool} {N : Nat} (b : Bool) {x y : Int64} (h : vb_R ob N x y) : vb_R (cu_a ob N b) (N + 1) x y := vB_mono (cu_al ob N b) (Nat.le_succ _) h
theorem cu_ncg {f g : Nat → Int32} {c : Nat} : ∀ {n : Nat}, (∀ i, i < n → f i = g i) → cu_n f c n = cu_n g c n
  | 0, _ => rfl
  | n + 1, h => by
    show cu_n f c n + (if f n = nI c then 1 else 0) = cu_n g c n + (if g n = nI c then 1 else 0)
    rw [h n (by omega), cu_ncg (fun i hi => h i (by omega))]
section
variable {NC NT : Nat} {ns mn : Int32} {cp cf mt op tk tp fp sk kd py : Nat → Int32} {KN PN SZ : Nat → Nat}
variable {N A T Pc D : Nat} {ob : Nat → Bool} {K : List (Bool × Nat × Nat)} {rs : Int64} {oc bt ba rd ac af fa fw fv wt wd pr mc : Nat → Int32} {of sl wv : Nat → Int64} {yoc ybt ybp ow ed wa yh mo mb : Nat → Int32} {yof sv vr vl : Nat → Int64}
theorem rl_new (r : (rl_R NC NT N A T Pc D ob K cp cf mt op tk tp fp kd KN PN SZ oc of bt ba sl ac af fa fw fv wt wd wv mc yoc yof ybt ybp sv vr ow ed wa yh vl)) (hT : T < 200) {c : Nat} (hc : c < NC) : (rl_R NC NT (N + 1) A (T + 1) Pc D (cu_a ob N true) K cp cf mt op tk tp fp kd KN PN SZ (upd oc N (nI c)) (ax_of4 of N) bt ba sl ac af fa fw fv wt wd wv (upd mc c (mc c + 1)) (upd yoc (cu_O ob N) (nI c)) (up_n yof (4 * cu_O ob N) (fun _ => vb_pk 1 0) 4) ybt ybp sv vr ow ed wa yh vl) := by
  obtain ⟨P, H, ⟨S, F0, AF⟩, B⟩ := r
  have nl : vb_R (cu_a ob N true) (N + 1) (vb_pk 1 0) (vb_pk 1 0) := Or.inl ⟨rfl, rfl⟩
  refine ⟨P, ⟨?_, ?_, ?_⟩, ⟨kl_cg (fun _ _ h => cu_aR true h) (Nat.le_refl _) (fun _ _ => ⟨rfl, rfl⟩) (fun _ _ _ => ⟨rfl, rfl, rfl⟩) (fun _ _ => rfl) (fun _ _ => ⟨rfl, rfl⟩) (fun _ _ => rfl) S, F0, AF⟩, ⟨⟨B.1.1, by have := B.1; omega, by omega⟩, B.2.1, ?_, ?_⟩⟩
  · intro t ht h0
    by_cases e : t = N
    · subst e
      rw [cu_agt, pk_us, pk_us]
      refine ⟨⟨c, hc, rfl, rfl⟩, fun k hk => ?_⟩
      unfold ax_of4
      rw [up_in hk, up_in hk]
      exact nl
    · have hl : t < N := by omega
      have h0' : ob t = true := by rw [← cu_al ob N true t hl]; exact h0
      have gl := cu_gt h0' hl
      obtain ⟨⟨c', hc', o1, o2⟩, of1⟩ := H.1 t hl h0'
      rw [cu_agl true hl, pk_un e, pk_un (by omega)]
      refine ⟨⟨c', hc', o1, o2⟩, fun k hk => ?_⟩
      unfold ax_of4
      rw [up_out (by omega), up_out (by omega)]
      exact cu_aR true (of1 k hk)
  · intro t ht h0
    have e : ¬ t = N := fun e => by subst e; rw [cu_an] at h0; exact absurd h0 (by decide)
    have hl : t < N := by omega
    have h0' : ob t = false := by rw [← cu_al ob N true t hl]; exact h0
    rw [cu_agl true hl]
    exact H.2.1 t hl h0'
  · intro a ha
    obtain ⟨h1, h2, h3⟩ := H.2.2 a ha
    exact ⟨cu_aR true h1, fun v hv => cu_aR true (h2 v hv), h3⟩
  · intro c' hc'
    rw [cu_at]
    show _ = nI (cu_n (upd yoc (cu_O ob N) (nI c)) c' (cu_O ob N) + (if upd yoc (cu_O ob N) (nI c) (cu_O ob N) = nI c' then 1 else 0))
    rw [cu_ncg (g := yoc) (fun i hi => pk_un (by omega)), pk_us]
    have m := B.2.2.1 c' hc'
    have hN := P.1
    by_cases e : c' = c
    · subst e
      rw [pk_us, if_pos rfl, m, nI_1]
    · rw [pk_un e, if_neg (fun z => e ((nI_eq (by omega) (by omega)).mp z).symm), Nat.add_zero]
      exact m
  · intro i hi
    rw [cu_at] at hi
    by_cases e : i = cu_O ob N
    · subst e
      exact ⟨c, hc, pk_us⟩
    · rw [pk_un e]
      exact B.2.2.2 i (by omega)
theorem rl_blk (r : (rl_R NC NT N A T Pc D ob K cp cf mt op tk tp fp kd KN PN SZ oc of bt ba sl ac af fa fw fv wt wd wv mc yoc yof ybt ybp sv vr ow ed wa yh vl)) (hT : T < 200) {t0 a0 : Nat} (ht : t0 < NT) (hk : KN t0 = 13) (ha : a0 < A) : (rl_R NC NT (N + 1) A (T + 1) Pc D (cu_a ob N false) K cp cf mt op tk tp fp kd KN PN SZ oc of (upd bt N (nI t0)) (upd ba N (nI a0)) sl ac af fa fw fv wt wd wv mc yoc yof (upd ybt (N - cu_O ob N) (nI t0)) (upd ybp (N - cu_O ob N) (nI a0)) sv vr ow ed wa yh vl) := by
  obtain ⟨P, H, ⟨S, F0, AF⟩, B⟩ := r
  refine ⟨P, ⟨?_, ?_, ?_⟩, ⟨kl_cg (fun _ _ h => cu_aR false h) (Nat.le_refl _) (fun _ _ => ⟨rfl, rfl⟩) (fun _ _ _ => ⟨rfl, rfl, rfl⟩) (fun _ _ => rfl) (fun _ _ => ⟨rfl, rfl⟩) (fun _ _ => rfl) S, F0, AF⟩, ⟨⟨B.1.1, by have := B.1; omega, by omega⟩, B.2.1, ?_, ?_⟩⟩
  · intro t h h0
    have e : ¬ t = N := fun e => by subst e; rw [cu_an] at h0; exact absurd h0 (by decide)
    have hl : t < N := by omega
    have h0' : ob t = true := by rw [← cu_al ob N false t hl]; exact h0
    rw [cu_agl false hl]
    obtain ⟨o1, o2⟩ := H.1 t hl h0'
    exact ⟨o1, fun k hk => cu_aR false (o2 k hk)⟩
  · intro t h h0
    by_cases e : t = N
    · subst e
      rw [cu_agf, pk_us, pk_us, pk_us, pk_us]
      exact ⟨t0, a0, ht, hk, ha, rfl, rfl, rfl, rfl⟩
    · have hl : t < N := by omega
      have h0' : ob t = false := by rw [← cu_al ob N false t hl]; exact h0
      have gl := cu_gf h0' hl
      rw [cu_agl false hl, pk_un e, pk_un e, pk_un (by omega), pk_un (by omega)]
      exact H.2.1 t hl h0'
  · intro a ha
    obtain ⟨h1, h2, h3⟩ := H.2.2 a ha
    exact ⟨cu_aR false h1, fun v hv => cu_aR false (h2 v hv), h3⟩
  · intro c hc
    rw [cu_af]
    exact B.2.2.1 c hc
  · intro i hi
    rw [cu_af] at hi
    exact B.2.2.2 i hi
theorem rl_set (r : (rl_R NC NT N A T Pc D ob K cp cf mt op tk tp fp kd KN PN SZ oc of bt ba sl ac af fa fw fv wt wd wv mc yoc yof ybt ybp sv vr ow ed wa yh vl)) {a j : Nat} (ha : a < A) (hj : j < 6) {x y : Int64} (h : vb_R ob N x y) : (rl_R NC NT N A T Pc D ob K cp cf mt op tk tp fp kd KN PN SZ oc of bt ba (vp_updL sl (a * 7 + j) x) ac af fa fw fv wt wd wv mc yoc yof ybt ybp sv (vp_updL vr (6 * a + j) y) ow ed wa yh vl) := by
  obtain ⟨P, H, S, B⟩ := r
  refine ⟨P, ⟨H.1, H.2.1, ?_⟩, S, B⟩
  intro a' ha'
  obtain ⟨h1, h2, h3⟩ := H.2.2 a' ha'
  refine ⟨?_, ?_, h3⟩
  · rw [pk_uLn (by omega)]; exact h1
  · intro v hv
    by_cases e : a' = a ∧ v = j
    · obtain ⟨rfl, rfl⟩ := e
      rw [pk_uLs, pk_uLs]; exact h
    · rw [pk_uLn (by omega), pk_uLn (by omega)]; exact h2 v hv
theorem rl_fld (r : (rl_R NC NT N A T Pc D ob K cp cf mt op tk tp fp kd KN PN SZ oc of bt ba sl ac af fa fw fv wt wd wv mc yoc yof ybt ybp sv vr ow ed wa yh vl)) {o k : Nat} (ho : o < N) (h0 : ob o = true) (hk : k < 4) {x y : Int64} (h : vb_R ob N x y) : (rl_R NC NT N A T Pc D ob K cp cf mt op tk tp fp kd KN PN SZ oc (vp_updL of (o * 4 + k) x) bt ba sl ac af fa fw fv wt wd wv mc yoc (vp_updL yof (4 * cu_g ob o + k) y) ybt ybp sv vr ow ed wa yh vl) := by
  obtain ⟨P, H, S, B⟩ := r
  refine ⟨P, ⟨?_, H.2.1, H.2.2⟩, S, B⟩
  intro t ht ht0
  obtain ⟨h1, h2⟩ := H.1 t ht ht0
  refine ⟨h1, fun k' hk' => ?_⟩
  by_cases e : t = o ∧ k' = k
  · obtain ⟨rfl, rfl⟩ := e
    rw [pk_uLs, pk_uLs]; exact h
  · have ne : t = o ∨ cu_g ob t ≠ cu_g ob o := by
      by_cases z : t = o
      · exact Or.inl z
      · exact Or.inr (fun q => z (cu_inj (ht0.trans h0.symm) q))
    have ne2 : t = o → k' ≠ k := fun z q => e ⟨z, q⟩
    rw [pk_uLn (by
      rcases ne with z | z
      · have := ne2 z; omega
      · intro q; exact z (by have : t = o := by omega
                             rw [this])), pk_uLn (by
      rcases ne with z | z
      · have := ne2 z; subst z; omega
      · omega)]
    exact h2 k' hk'
end
end
section
section
variable {NC NT : Nat} {ns mn : Int32} {cp cf mt op tk tp fp sk kd py : Nat → Int32} {KN PN SZ : Nat → Nat}
variable {N A T Pc D : Nat} {ob : Nat → Bool} {K : List (Bool × Nat × Nat)} {rs : Int64} {oc bt ba rd ac af fa fw fv wt wd pr mc : Nat → Int32} {of sl wv : Nat → Int64} {yoc ybt ybp ow ed wa yh mo mb : Nat → Int32} {yof sv vr vl : Nat → Int64}
variable {μ t : Nat}
theorem op_5 (r : (rl_R NC NT N A T Pc D ob K cp cf mt op tk tp fp kd KN PN SZ oc of bt ba sl ac af fa fw fv wt wd wv mc yoc yof ybt ybp sv vr ow ed wa yh vl)) (E : en_F NT K KN SZ t 0 wt wd wa) (hk : KN t = 5) (hm : 802 * (200 - T) + kl_C KN PN SZ K + 1 < μ) : nx_S NC NT ns mn cp cf mt op tk tp fp sk kd py KN PN SZ μ (nI NC, nI NT, ns, mn, nI N, nI A, nI (kl_F K), nI (kl_W K + 1), nI (kl_X KN K), -1, rs, nI Pc, nI T, nI D, cp, cf, mt, op, tk, tp, fp, sk, oc, of, bt, ba, rd, sl, ac, af, fa, fw, fv, wt, wd, wv, pr, mc) (nI NC, nI NT, ns, mn, nI (cu_O ob N), nI (N - cu_O ob N), nI A, nI (kl_Q KN K + 1), nI (kl_Y KN K), nI (kl_F K), nI D, nI T, nI Pc, -4, cp, cf, mt, kd, tk, tp, sk, yoc, yof, ybt, ybp, sv, vr, ow, ed, wa, yh, vl, pe_P pr py Pc, mo, mb) := by
  obtain ⟨⟨n1, n2, n3, n4, n5⟩, ⟨n6, n7, n8, n9, n10, n11⟩, ⟨n12, n13, n14, n15, n16⟩, b, nb1, nb2⟩ := rl_n r
  obtain ⟨⟨e1, e2⟩, e3, e4, e5⟩ := E
  have Z := rl_sz r e1
  obtain ⟨v1, v2, v3, v4, v5, v6, v7⟩ := rl_tm r e1
  rw [hk] at v2 v3 v4 v5 v6 Z
  obtain ⟨c, hc, ec⟩ := v5.2.2.1 rfl
  by_cases hT : T = 200
  · subst hT
    exact nx_UF r ⟨⟨e1, e2⟩, e3, e4, e5⟩ (by rw [hk]; decide) (by omega) (fun P hP => ax_fin_5 P (by omega) Z.2.2 e3 v3 (ax_new_n P hP)) (fun P hP => ay_step_E _ (by omega) (by omega) Z.2.2 e5 (ay_bg_5 P Z.2.2 v2 (ay_obj_n P hP))) (by omega) (fr_n r (Or.inr (Or.inl rfl)))
  · have g := cu_le ob N
    have C := cf_put (μ := 802 * (200 - (T + 1)) + kl_C KN PN SZ K + 1) (py := py) (ns := ns) (mn := mn) (sk := sk) (rs := rs) (rd := rd) (pr := pr) (mo := mo) (mb := mb) (rl_new r (by omega) hc) (x := vb_pk 4 (nI N)) (y := vb_pk 4 (nI (cu_O ob N))) (Or.inr (Or.inr (Or.inr ⟨N, by omega, cu_an _ _ _, rfl, by rw [cu_agt]⟩))) (Nat.le_refl _)
    rw [cu_at, Nat.add_sub_add_right] at C
    exact nx_U r ⟨⟨e1, e2⟩, e3, e4, e5⟩ (by rw [hk]; decide) (by omega) (fun P hP => ax_fin_5 P (by omega) Z.2.2 e3 v3 (by rw [ec]; exact ax_new_f P (by omega) (by omega) (by omega) (by omega) hP)) (fun P hP => ay_step_E _ (by omega) (by omega) Z.2.2 e5 (ay_bg_5 P Z.2.2 v2 (by rw [ec]; exact ay_obj_f P (by omega) (by omega) (by omega) hP))) (by omega) C
theorem op_13 (r : (rl_R NC NT N A T Pc D ob K cp cf mt op tk tp fp kd KN PN SZ oc of bt ba sl ac af fa fw fv wt wd wv mc yoc yof ybt ybp sv vr ow ed wa yh vl)) (E : en_F NT K KN SZ t 0 wt wd wa) (hk : KN t = 13) (hm : 802 * (200 - T) + kl_C KN PN SZ K + 1 < μ) : nx_S NC NT ns mn cp cf mt op tk tp fp sk kd py KN PN SZ μ (nI NC, nI NT, ns, mn, nI N, nI A, nI (kl_F K), nI (kl_W K + 1), nI (kl_X KN K), -1, rs, nI Pc, nI T, nI D, cp, cf, mt, op, tk, tp, fp, sk, oc, of, bt, ba, rd, sl, ac, af, fa, fw, fv, wt, wd, wv, pr, mc) (nI NC, nI NT, ns, mn, nI (cu_O ob N), nI (N - cu_O ob N), nI A, nI (kl_Q KN K + 1), nI (kl_Y KN K), nI (kl_F K), nI D, nI T, nI Pc, -4, cp, cf, mt, kd, tk, tp, sk, yoc, yof, ybt, ybp, sv, vr, ow, ed, wa, yh, vl, pe_P pr py Pc, mo, mb) := by
  obtain ⟨⟨n1, n2, n3, n4, n5⟩, ⟨n6, n7, n8, n9, n10, n11⟩, ⟨n12, n13, n14, n15, n16⟩, b, nb1, nb2⟩ := rl_n r
  obtain ⟨⟨e1, e2⟩, e3, e4, e5⟩ := E
  have Z := rl_sz r e1
  obtain ⟨v1, v2, v3, v4, v5, v6, v7⟩ := rl_tm r e1
  rw [hk] at v2 v3 v4 v5 v6 Z
  by_cases hT : T = 200
  · subst hT
    exact nx_UF r ⟨⟨e1, e2⟩, e3, e4, e5⟩ (by rw [hk]; decide) (by omega) (fun P hP => ax_fin_10 P (by omega) Z.2.2 e3 v3 (ax_block_n P hP)) (fun P hP => ay_step_E _ (by omega) (by omega) Z.2.2 e5 (ay_bg_13 P Z.2.2 v2 (ay_blk_n P hP))) (by omega) (fr_n r (Or.inr (Or.inl rfl)))
  · have g := cu_le ob N
    have C := cf_put (μ := 802 * (200 - (T + 1)) + kl_C KN PN SZ K + 1) (py := py) (ns := ns) (mn := mn) (sk := sk) (rs := rs) (rd := rd) (pr := pr) (mo := mo) (mb := mb) (rl_blk r (by omega) e1 hk n7) (x := vb_pk 3 (nI N)) (y := vb_pk 3 (nI (N - cu_O ob N))) (Or.inr (Or.inr (Or.inl ⟨N, by omega, cu_an _ _ _, rfl, by rw [cu_agf]⟩))) (Nat.le_refl _)
    rw [cu_af', cu_af] at C
    exact nx_U r ⟨⟨e1, e2⟩, e3, e4, e5⟩ (by rw [hk]; decide) (by omega) (fun P hP => ax_fin_10 P (by omega) Z.2.2 e3 v3 (ax_block_f P (by omega) (by omega) (by omega) n6 (by omega) hP)) (fun P hP => ay_step_E _ (by omega) (by omega) Z.2.2 e5 (ay_bg_13 P Z.2.2 v2 (ay_blk_f P (by omega) (by omega) (by omega) hP))) (by omega) C
theorem op_10 (r : (rl_R NC NT N A T Pc D ob K cp cf mt op tk tp fp kd KN PN SZ oc of bt ba sl ac af fa fw fv wt wd wv mc yoc yof ybt ybp sv vr ow ed wa yh vl)) (E : en_F NT K KN SZ t 1 wt wd wa) (hk : KN t = 10) (hv : vb_R ob N (wv (kl_X KN K)) (vl (kl_Y KN K))) (hm : 802 * (200 - T) + kl_C KN PN SZ K + 1 < μ) : nx_S NC NT ns mn cp cf mt op tk tp fp sk kd py KN PN SZ μ (nI NC, nI NT, ns, mn, nI N, nI A, nI (kl_F K), nI (kl_W K + 1), nI (kl_X KN K + 1), -1, rs, nI Pc, nI T, nI D, cp, cf, mt, op, tk, tp, fp, sk, oc, of, bt, ba, rd, sl, ac, af, fa, fw, fv, wt, wd, wv, pr, mc) (nI NC, nI NT, ns, mn, nI (cu_O ob N), nI (N - cu_O ob N), nI A, nI (kl_Q KN K + 1), nI (kl_Y KN K + 1), nI (kl_F K), nI D, nI T, nI Pc, -4, cp, cf, mt, kd, tk, tp, sk, yoc, yof, ybt, ybp, sv, vr, ow, ed, wa, yh, vl, pe_P pr py Pc, mo, mb) := by
  obtain ⟨⟨n1, n2, n3, n4, n5⟩, ⟨n6, n7, n8, n9, n10, n11⟩, ⟨n12, n13, n14, n15, n16⟩, b, nb1, nb2⟩ := rl_n r
  obtain ⟨⟨e1, e2⟩, e3, e4, e5⟩ := E
  have Z := rl_sz r e1
  obtain ⟨v1, v2, v3, v4, v5, v6, v7⟩ := rl_tm r e1
  rw [hk] at v2 v3 v4 v5 v6 Z
  obtain ⟨j, hj, ej⟩ := v5.1 (Or.inr rfl)
  exact nx_U r ⟨⟨e1, e2⟩, e3, e4, e5⟩ (by rw [hk]; decide) (by omega) (fun P hP => ax_fin_7 P (by omega) Z.2.2 e3 v3 (by rw [ej]; exact ax_set P (by omega) (by omega) (by omega) (by omega) n6 hP)) (fun P hP => ay_step_1 (s := 1) _ (by omega) (by omega) Z.2.2 (by omega) (by omega) e5 v2 (by decide) (ay_f1_10 P Z.2.2 v2 (by omega) ej hj (by omega) hP)) hm (cf_Vi (rl_set r n7 hj hv) hv (Nat.le_refl _))
theorem op_11 (r : (rl_R NC NT N A T Pc D ob K cp cf mt op tk tp fp kd KN PN SZ oc of bt ba sl ac af fa fw fv wt wd wv mc yoc yof ybt ybp sv vr ow ed wa yh vl)) (E : en_F NT K KN SZ t 1 wt wd wa) (hk : KN t = 11) (hv : vb_R ob N (wv (kl_X KN K)) (vl (kl_Y KN K))) (hm : 802 * (200 - T) + kl_C KN PN SZ K + 1 < μ) : nx_S NC NT ns mn cp cf mt op tk tp fp sk kd py KN PN SZ μ (nI NC, nI NT, ns, mn, nI N, nI A, nI (kl_F K), nI (kl_W K + 1), nI (kl_X KN K + 1), -1, rs, nI Pc, nI T, nI D, cp, cf, mt, op, tk, tp, fp, sk, oc, of, bt, ba, rd, sl, ac, af, fa, fw, fv, wt, wd, wv, pr, mc) (nI NC, nI NT, ns, mn, nI (cu_O ob N), nI (N - cu_O ob N), nI A, nI (kl_Q KN K + 1), nI (kl_Y KN K + 1), nI (kl_F K), nI D, nI T, nI Pc, -4, cp, cf, mt, kd, tk, tp, sk, yoc, yof, ybt, ybp, sv, vr, ow, ed, wa, yh, vl, pe_P pr py Pc, mo, mb) := by
  obtain ⟨⟨n1, n2, n3, n4, n5⟩, ⟨n6, n7, n8, n9, n10, n11⟩, ⟨n12, n13, n14, n15, n16⟩, b, nb1, nb2⟩ := rl_n r
  obtain ⟨⟨e1, e2⟩, e3, e4, e5⟩ := E
  have Z := rl_sz r e1
  obtain ⟨v1, v2, v3, v4, v5, v6, v7⟩ := rl_tm r e1
  rw [hk] at v2 v3 v4 v5 v6 Z
  obtain ⟨k, hk4, ek⟩ := v5.2.1 (Or.inr rfl)
  rcases op_fi (py := py) (ns := ns) (mn := mn) (sk := sk) (rs := rs) (rd := rd) (pr := pr) (mo := mo) (mb := mb) r hk4 with ⟨fx, fy⟩ | ⟨o, ho, h0, fx, fy⟩
  · exact nx_UF r ⟨⟨e1, e2⟩, e3, e4, e5⟩ (by rw [hk]; decide) (by omega) (fun P hP => ax_fin_8 P (by omega) Z.2.2 e3 v3 (by rw [ek]; exact ax_setf_s P (fx _ _) hP)) (fun P hP => ay_step_1 (s := 1) _ (by omega) (by omega) Z.2.2 (by omega) (by omega) e5 v2 (by decide) (ay_f1_11s P Z.2.2 v2 (by omega) (by rw [ek]; exact fy _ _) hP)) (by omega) (fr_n r (Or.inl rfl))
  · have g1 := cu_gt h0 ho
    have g2 := cu_le ob N
    exact nx_U r ⟨⟨e1, e2⟩, e3, e4, e5⟩ (by rw [hk]; decide) (by omega) (fun P hP => ax_fin_8 P (by omega) Z.2.2 e3 v3 (by rw [ek]; exact ax_setf_o P (fx _ _) (by omega) (by omega) hP)) (fun P hP => ay_step_1 (s := 1) _ (by omega) (by omega) Z.2.2 (by omega) (by omega) e5 v2 (by decide) (ay_f1_11o P Z.2.2 v2 (by omega) (by omega) (by rw [ek]; exact fy _ _) hP)) hm (cf_Vi (rl_fld r ho h0 hk4 hv) hv (Nat.le_refl _))
theorem op_12 (r : (rl_R NC NT N A T Pc D ob K cp cf mt op tk tp fp kd KN PN SZ oc of bt ba sl ac af fa fw fv wt wd wv mc yoc yof ybt ybp sv vr ow ed wa yh vl)) (E : en_F NT K KN SZ t 1 wt wd wa) (hk : KN t = 12) (hv : vb_R ob N (wv (kl_X KN K)) (vl (kl_Y KN K))) (hm : 802 * (200 - T) + kl_C KN PN SZ K + 1 < μ) : nx_S NC NT ns mn cp cf mt op tk tp fp sk kd py KN PN SZ μ (nI NC, nI NT, ns, mn, nI N, nI A, nI (kl_F K), nI (kl_W K + 1), nI (kl_X KN K + 1), -1, rs, nI Pc, nI T, nI D, cp, cf, mt, op, tk, tp, fp, sk, oc, of, bt, ba, rd, sl, ac, af, fa, fw, fv, wt, wd, wv, pr, mc) (nI NC, nI NT, ns, mn, nI (cu_O ob N), nI (N - cu_O ob N), nI A, nI (kl_Q KN K + 1), nI (kl_Y KN K + 1), nI (kl_F K), nI D, nI T, nI Pc, -4, cp, cf, mt, kd, tk, tp, sk, yoc, yof, ybt, ybp, sv, vr, ow, ed, wa, yh, vl, pe_P pr py Pc, mo, mb) := by
  obtain ⟨⟨n1, n2, n3, n4, n5⟩, ⟨n6, n7, n8, n9, n10, n11⟩, ⟨n12, n13, n14, n15, n16⟩, b, nb1, nb2⟩ := rl_n r
  obtain ⟨⟨e1, e2⟩, e3, e4, e5⟩ := E
  have Z := rl_sz r e1
  obtain ⟨v1, v2, v3, v4, v5, v6, v7⟩ := rl_tm r e1
  rw [hk] at v2 v3 v4 v5 v6 Z
  by_cases h4 : vb_T (wv (kl_X KN K)) = 4
  · obtain ⟨o, ho, h0, hx, hy⟩ := vB_4 hv h4
    obtain ⟨⟨c, hc, o1, o2⟩, _⟩ := r.2.1.1 o ho h0
    have g1 := cu_gt h0 ho
    have g2 := cu_le ob N
    obtain ⟨h, h01, dX, dY⟩ := lk_d (g := tk t) (nc := nI NC) (nt := nI NT) (ns := ns) (mn := mn) (n := nI N) (na := nI A) (f := nI (kl_F K)) (ws := nI (kl_W K)) (vs := nI (kl_X KN K)) (en := -1) (rs := rs) (pc := nI Pc) (tc := nI T) (dc := nI D) (op := op) (tk := tk) (tp := tp) (fp := fp) (sk := sk) (oc := oc) (of := of) (bt := bt) (ba := ba) (rd := rd) (sl := sl) (ac := ac) (af := af) (fa := fa) (fw := fw) (fv := fv) (wt := wt) (wd := wd) (wv := wv) (pr := pr) (mc := mc) (yc := nI NC) (yt := nI NT) (ys := ns) (ym := mn) (no := nI (cu_O ob N)) (nb := nI (N - cu_O ob N)) (ya := nI A) (yw := nI (kl_Q KN K)) (yv := nI (kl_Y KN K + 1)) (yu := nI (kl_F K)) (yo := nI D) (yk := nI T) (yp := nI Pc) (ye := -4) (ycf := cf) (ymt := mt) (kd := kd) (ytk := tk) (ytp := tp) (ysk := sk) (yoc := yoc) (yof := yof) (ybt := ybt) (ybp := ybp) (sv := sv) (vr := vr) (ow := ow) (ed := ed) (wa := wa) (yh := yh) (vl := vl) (ypr := pe_P pr py Pc) (mo := mo) (mb := mb) r.1.2.2.1 r.1.1 (c + 1) c 0 (by omega) hc (by omega)
    exact nx_U r ⟨⟨e1, e2⟩, e3, e4, e5⟩ (by rw [hk]; decide) (by omega) (fun P hP => ax_fin_9 P (by omega) Z.2.2 e3 v3 (lk_is P (by omega) h01 (Or.inr ⟨o, c, hx, by omega, o1, fun Q hQ => Exists.intro (c + 2) (dX Q (c + 2) (by omega) hQ)⟩) hP)) (fun P hP => ay_step_1 (s := 1) _ (by omega) (by omega) Z.2.2 (by omega) (by omega) e5 v2 (by decide) (ay_f1_12 P Z.2.2 v2 (by omega) h01 (fun Q hQ => by rw [hy]; exact lk_isY1 Q (m := c + 2) (by omega) o2 (dY Q (c + 2) (by omega) hQ)) hP)) hm (cf_put r (Or.inr (Or.inl ⟨h, rfl, rfl⟩)) (Nat.le_refl _))
  · have h4' : ¬ vb_T (vl (kl_Y KN K)) = 4 := by rw [← vB_T hv]; exact h4
    exact nx_U r ⟨⟨e1, e2⟩, e3, e4, e5⟩ (by rw [hk]; decide) (by omega) (fun P hP => ax_fin_9 P (by omega) Z.2.2 e3 v3 (lk_is P (by omega) (Or.inl rfl) (Or.inl ⟨h4, rfl⟩) hP)) (fun P hP => ay_step_1 (s := 1) _ (by omega) (by omega) Z.2.2 (by omega) (by omega) e5 v2 (by decide) (ay_f1_12 P Z.2.2 v2 (by omega) (Or.inl rfl) (fun Q hQ => lk_isY0 Q h4' hQ) hP)) hm (cf_put r (Or.inr (Or.inl ⟨0, rfl, rfl⟩)) (Nat.le_refl _))
theorem rl_prn (r : (rl_R NC NT N A T Pc D ob K cp cf mt op tk tp fp kd KN PN SZ oc of bt ba sl ac af fa fw fv wt wd wv mc yoc yof ybt ybp sv vr ow ed wa yh vl)) (h : Pc < 20) : (rl_R NC NT N A T (Pc + 1) D ob K cp cf mt op tk tp fp kd KN PN SZ oc of bt ba sl ac af fa fw fv wt wd wv mc yoc yof ybt ybp sv vr ow ed wa yh vl) := by
  obtain ⟨P, H, S, B⟩ := r
  exact ⟨P, H, S, B.1, ⟨by omega, B.2.1.2⟩, B.2.2⟩
theorem op_16 (r : (rl_R NC NT N A T Pc D ob K cp cf mt op tk tp fp kd KN PN SZ oc of bt ba sl ac af fa fw fv wt wd wv mc yoc yof ybt ybp sv vr ow ed wa yh vl)) (E : en_F NT K KN SZ t 1 wt wd wa) (hk : KN t = 16) (hv : vb_R ob N (wv (kl_X KN K)) (vl (kl_Y KN K))) (hm : 802 * (200 - T) + kl_C KN PN SZ K + 1 < μ) : nx_S NC NT ns mn cp cf mt op tk tp fp sk kd py KN PN SZ μ (nI NC, nI NT, ns, mn, nI N, nI A, nI (kl_F K), nI (kl_W K + 1), nI (kl_X KN K + 1), -1, rs, nI Pc, nI T, nI D, cp, cf, mt, op, tk, tp, fp, sk, oc, of, bt, ba, rd, sl, ac, af, fa, fw, fv, wt, wd, wv, pr, mc) (nI NC, nI NT, ns, mn, nI (cu_O ob N), nI (N - cu_O ob N), nI A, nI (kl_Q KN K + 1), nI (kl_Y KN K + 1), nI (kl_F K), nI D, nI T, nI Pc, -4, cp, cf, mt, kd, tk, tp, sk, yoc, yof, ybt, ybp, sv, vr, ow, ed, wa, yh, vl, pe_P pr py Pc, mo, mb) := by
  obtain ⟨⟨n1, n2, n3, n4, n5⟩, ⟨n6, n7, n8, n9, n10, n11⟩, ⟨n12, n13, n14, n15, n16⟩, b, nb1, nb2⟩ := rl_n r
  obtain ⟨⟨e1, e2⟩, e3, e4, e5⟩ := E
  have Z := rl_sz r e1
  obtain ⟨v1, v2, v3, v4, v5, v6, v7⟩ := rl_tm r e1
  rw [hk] at v2 v3 v4 v5 v6 Z
  by_cases h2 : vb_T (wv (kl_X KN K)) = 2
  · have h2' : vb_T (vl (kl_Y KN K)) = 2 := by rw [← vB_T hv]; exact h2
    have e0 := (vB_2 hv h2).1
    by_cases hp : Pc = 20
    · subst hp
      exact nx_UF r ⟨⟨e1, e2⟩, e3, e4, e5⟩ (by rw [hk]; decide) (by omega) (fun P hP => ax_fin_13 P (by omega) Z.2.2 e3 v3 (ax_print_n P (by omega) h2 hP)) (fun P hP => ay_step_1 (s := 1) _ (by omega) (by omega) Z.2.2 (by omega) (by omega) e5 v2 (by decide) (ay_f1_16 P Z.2.2 v2 (by omega) (ay_print_n P (by omega) h2' hP))) (by omega) (fr_n r (Or.inr (Or.inr (Or.inr rfl))))
    · exact nx_U r ⟨⟨e1, e2⟩, e3, e4, e5⟩ (by rw [hk]; decide) (by omega) (fun P hP => ax_fin_13 P (by omega) Z.2.2 e3 v3 (ax_print_f P (by omega) (by omega) h2 hP)) (fun P hP => ay_step_1 (s := 1) _ (by omega) (by omega) Z.2.2 (by omega) (by omega) e5 v2 (by decide) (ay_f1_16 P Z.2.2 v2 (by omega) (ay_print_f P (by omega) (by omega) h2' (by rw [e0, pe_u]; exact hP)))) hm (cf_Vi (pr := upd pr Pc (wv (kl_X KN K)).toInt32) (rl_prn r (by omega)) hv (Nat.le_refl _))
  · have h2' : ¬ vb_T (vl (kl_Y KN K)) = 2 := by rw [← vB_T hv]; exact h2
    exact nx_UF r ⟨⟨e1, e2⟩, e3, e4, e5⟩ (by rw [hk]; decide) (by omega) (fun P hP => ax_fin_13 P (by omega) Z.2.2 e3 v3 (ax_print_s P (by omega) h2 hP)) (fun P hP => ay_step_1 (s := 1) _ (by omega) (by omega) Z.2.2 (by omega) (by omega) e5 v2 (by decide) (ay_f1_16 P Z.2.2 v2 (by omega) (ay_print_s P (by omega) h2' hP))) (by omega) (fr_n r (Or.inl rfl))
/-! two parts -/
theorem op_24 (r : (rl_R NC NT N A T Pc D ob K cp cf mt op tk tp fp kd KN PN SZ oc of bt ba sl ac af fa fw fv wt wd wv mc yoc yof ybt ybp sv vr ow ed wa yh vl)) (E : en_F NT K KN SZ t 2 wt wd wa) (hk : KN t = 24) (hv : vb_R ob N (wv (kl_X KN K)) (vl (kl_Y KN K))) (hw : vb_R ob N (wv (kl_X KN K + 1)) (vl (kl_Y KN K + 1))) (hm : 802 * (200 - T) + kl_C KN PN SZ K + 1 < μ) : nx_S NC NT ns mn cp cf mt op tk tp fp sk kd py KN PN SZ μ (nI NC, nI NT, ns, mn, nI N, nI A, nI (kl_F K), nI (kl_W K + 1), nI (kl_X KN K + 2), -1, rs, nI Pc, nI T, nI D, cp, cf, mt, op, tk, tp, fp, sk, oc, of, bt, ba, rd, sl, ac, af, fa, fw, fv, wt, wd, wv, pr, mc) (nI NC, nI NT, ns, mn, nI (cu_O ob N), nI (N - cu_O ob N), nI A, nI (kl_Q KN K + 1), nI (kl_Y KN K + 2), nI (kl_F K), nI D, nI T, nI Pc, -4, cp, cf, mt, kd, tk, tp, sk, yoc, yof, ybt, ybp, sv, vr, ow, ed, wa, yh, vl, pe_P pr py Pc, mo, mb) := by
  obtain ⟨⟨n1, n2, n3, n4, n5⟩, ⟨n6, n7, n8, n9, n10, n11⟩, ⟨n12, n13, n14, n15, n16⟩, b, nb1, nb2⟩ := rl_n r
  obtain ⟨⟨e1, e2⟩, e3, e4, e5⟩ := E
  have Z := rl_sz r e1
  obtain ⟨v1, v2, v3, v4, v5, v6, v7⟩ := rl_tm r e1
  rw [hk] at v2 v3 v4 v5 v6 Z
  have q := vB_eq (by omega) hv hw
  have hi : ∃ i : Int32, ((wv (kl_X KN K) = wv (kl_X KN K + 1) ∧ i = 1) ∨ (¬ wv (kl_X KN K) = wv (kl_X KN K + 1) ∧ i = 0)) ∧ ((vl (kl_Y KN K) = vl (kl_Y KN K + 1) ∧ i = 1) ∨ (¬ vl (kl_Y KN K) = vl (kl_Y KN K + 1) ∧ i = 0)) := by
    by_cases z : wv (kl_X KN K) = wv (kl_X KN K + 1)
    · exact ⟨1, Or.inl ⟨z, rfl⟩, Or.inl ⟨q.mp z, rfl⟩⟩
    · exact ⟨0, Or.inr ⟨z, rfl⟩, Or.inr ⟨fun y => z (q.mpr y), rfl⟩⟩
  obtain ⟨i, hx, hy⟩ := hi
  exact nx_U r ⟨⟨e1, e2⟩, e3, e4, e5⟩ (by rw [hk]; decide) (by omega) (fun P hP => ax_fin_19 P (by omega) Z.2.2 e3 v3 (ax_same P (by omega) hx hP)) (fun P hP => ay_step_2 (s := 2) _ (by omega) (by omega) Z.2.2 (by omega) (by omega) e5 v2 (by decide) (by decide) (ay_t_op (k := 24) P Z.2.2 v2 (by omega) (by omega) (ay_op_e P (by omega) hy hP))) hm (cf_put r (Or.inr (Or.inl ⟨i, rfl, rfl⟩)) (Nat.le_refl _))
theorem op_ar (r : (rl_R NC NT N A T Pc D ob K cp cf mt op tk tp fp kd KN PN SZ oc of bt ba sl ac af fa fw fv wt wd wv mc yoc yof ybt ybp sv vr ow ed wa yh vl)) (E : en_F NT K KN SZ t 2 wt wd wa) {k : Nat} (hk : KN t = k) (hk2 : 20 ≤ k) (hk3 : k ≤ 23) (h3 : ∀ P : SX → Prop, wpX_finishArithmetic P (nI NC, nI NT, ns, mn, nI N, nI A, nI (kl_F K), nI (kl_W K), nI (kl_X KN K + 2), -1, rs, nI Pc, nI T, nI D, cp, cf, mt, op, tk, tp, fp, sk, oc, of, bt, ba, rd, sl, ac, af, fa, fw, fv, wt, wd, wv, pr, mc) (nI (k - 5)) → wpX_finish P (nI NC, nI NT, ns, mn, nI N, nI A, nI (kl_F K), nI (kl_W K + 1), nI (kl_X KN K + 2), -1, rs, nI Pc, nI T, nI D, cp, cf, mt, op, tk, tp, fp, sk, oc, of, bt, ba, rd, sl, ac, af, fa, fw, fv, wt, wd, wv, pr, mc)) (hf : pg_fp k ≤ 2) (hv : vb_R ob N (wv (kl_X KN K)) (vl (kl_Y KN K))) (hw : vb_R ob N (wv (kl_X KN K + 1)) (vl (kl_Y KN K + 1))) (hm : 802 * (200 - T) + kl_C KN PN SZ K + 1 < μ) : nx_S NC NT ns mn cp cf mt op tk tp fp sk kd py KN PN SZ μ (nI NC, nI NT, ns, mn, nI N, nI A, nI (kl_F K), nI (kl_W K + 1), nI (kl_X KN K + 2), -1, rs, nI Pc, nI T, nI D, cp, cf, mt, op, tk, tp, fp, sk, oc, of, bt, ba, rd, sl, ac, af, fa, fw, fv, wt, wd, wv, pr, mc) (nI NC, nI NT, ns, mn, nI (cu_O ob N), nI (N - cu_O ob N), nI A, nI (kl_Q KN K + 1), nI (kl_Y KN K + 2), nI (kl_F K), nI D, nI T, nI Pc, -4, cp, cf, mt, kd, tk, tp, sk, yoc, yof, ybt, ybp, sv, vr, ow, ed, wa, yh, vl, pe_P pr py Pc, mo, mb) := by
  obtain ⟨⟨n1, n2, n3, n4, n5⟩, ⟨n6, n7, n8, n9, n10, n11⟩, ⟨n12, n13, n14, n15, n16⟩, b, nb1, nb2⟩ := rl_n r
  obtain ⟨⟨e1, e2⟩, e3, e4, e5⟩ := E
  have Z := rl_sz r e1
  obtain ⟨v1, v2, v3, v4, v5, v6, v7⟩ := rl_tm r e1
  rw [hk] at v2 v3 v4 v5 v6 Z
  by_cases z : vb_T (wv (kl_X KN K)) = 2 ∧ vb_T (wv (kl_X KN K + 1)) = 2
  · have z1 : vb_T (vl (kl_Y KN K)) = 2 := by rw [← vB_T hv]; exact z.1
    have z2 : vb_T (vl (kl_Y KN K + 1)) = 2 := by rw [← vB_T hw]; exact z.2
    have y1 := (vB_2 hv z.1).1
    have y2 := (vB_2 hw z.2).1
    exact nx_U r ⟨⟨e1, e2⟩, e3, e4, e5⟩ (by rw [hk]; exact hf) (by omega) (fun P hP => h3 P (ax_ar_f P (by omega) (by omega) z.1 z.2 hP)) (fun P hP => ay_step_2 (s := 2) _ (by omega) (by omega) Z.2.2 (by omega) (by omega) e5 v2 hk2 (by omega) (ay_t_op P Z.2.2 v2 hk2 (by omega) (ay_op_f P (by omega) ⟨hk2, hk3⟩ z1 z2 (by rw [y1, y2]; exact hP)))) hm (cf_put r (Or.inr (Or.inl ⟨_, rfl, rfl⟩)) (Nat.le_refl _))
  · have z' : ¬ (vb_T (vl (kl_Y KN K)) = 2 ∧ vb_T (vl (kl_Y KN K + 1)) = 2) := by rw [← vB_T hv, ← vB_T hw]; exact z
    exact nx_UF r ⟨⟨e1, e2⟩, e3, e4, e5⟩ (by rw [hk]; exact hf) (by omega) (fun P hP => h3 P (ax_ar_s P (by omega) z hP)) (fun P hP => ay_step_2 (s := 2) _ (by omega) (by omega) Z.2.2 (by omega) (by omega) e5 v2 hk2 (by omega) (ay_t_op P Z.2.2 v2 hk2 (by omega) (ay_op_s P (by omega) (ay_nIne (b := 24) (by omega) (by omega) (by omega)) z' hP))) (by omega) (fr_n r (Or.inl rfl))
theorem op_20 (r : (rl_R NC NT N A T Pc D ob K cp cf mt op tk tp fp kd KN PN SZ oc of bt ba sl ac af fa fw fv wt wd wv mc yoc yof ybt ybp sv vr ow ed wa yh vl)) (E : en_F NT K KN SZ t 2 wt wd wa) (hk : KN t = 20) (hv : vb_R ob N (wv (kl_X KN K)) (vl (kl_Y KN K))) (hw : vb_R ob N (wv (kl_X KN K + 1)) (vl (kl_Y KN K + 1))) (hm : 802 * (200 - T) + kl_C KN PN SZ K + 1 < μ) : nx_S NC NT ns mn cp cf mt op tk tp fp sk kd py KN PN SZ μ (nI NC, nI NT, ns, mn, nI N, nI A, nI (kl_F K), nI (kl_W K + 1), nI (kl_X KN K + 2), -1, rs, nI Pc, nI T, nI D, cp, cf, mt, op, tk, tp, fp, sk, oc, of, bt, ba, rd, sl, ac, af, fa, fw, fv, wt, wd, wv, pr, mc) (nI NC, nI NT, ns, mn, nI (cu_O ob N), nI (N - cu_O ob N), nI A, nI (kl_Q KN K + 1), nI (kl_Y KN K + 2), nI (kl_F K), nI D, nI T, nI Pc, -4, cp, cf, mt, kd, tk, tp, sk, yoc, yof, ybt, ybp, sv, vr, ow, ed, wa, yh, vl, pe_P pr py Pc, mo, mb) := by
  have E' := E
  obtain ⟨⟨n1, n2, n3, n4, n5⟩, ⟨n6, n7, n8, n9, n10, n11⟩, ⟨n12, n13, n14, n15, n16⟩, b, nb1, nb2⟩ := rl_n r
  obtain ⟨⟨e1, e2⟩, e3, e4, e5⟩ := E
  have Z := rl_sz r e1
  obtain ⟨v1, v2, v3, v4, v5, v6, v7⟩ := rl_tm r e1
  rw [hk] at v2 v3 v4 v5 v6 Z
  exact op_ar r E' hk (by omega) (by omega) (fun P hP => ax_fin_15 P (by omega) Z.2.2 e3 v3 hP) (by decide) hv hw hm
theorem op_21 (r : (rl_R NC NT N A T Pc D ob K cp cf mt op tk tp fp kd KN PN SZ oc of bt ba sl ac af fa fw fv wt wd wv mc yoc yof ybt ybp sv vr ow ed wa yh vl)) (E : en_F NT K KN SZ t 2 wt wd wa) (hk : KN t = 21) (hv : vb_R ob N (wv (kl_X KN K)) (vl (kl_Y KN K))) (hw : vb_R ob N (wv (kl_X KN K + 1)) (vl (kl_Y KN K + 1))) (hm : 802 * (200 - T) + kl_C KN PN SZ K + 1 < μ) : nx_S NC NT ns mn cp cf mt op tk tp fp sk kd py KN PN SZ μ (nI NC, nI NT, ns, mn, nI N, nI A, nI (kl_F K), nI (kl_W K + 1), nI (kl_X KN K + 2), -1, rs, nI Pc, nI T, nI D, cp, cf, mt, op, tk, tp, fp, sk, oc, of, bt, ba, rd, sl, ac, af, fa, fw, fv, wt, wd, wv, pr, mc) (nI NC, nI NT, ns, mn, nI (cu_O ob N), nI (N - cu_O ob N), nI A, nI (kl_Q KN K + 1), nI (kl_Y KN K + 2), nI (kl_F K), nI D, nI T, nI Pc, -4, cp, cf, mt, kd, tk, tp, sk, yoc, yof, ybt, ybp, sv, vr, ow, ed, wa, yh, vl, pe_P pr py Pc, mo, mb) := by
  have E' := E
  obtain ⟨⟨n1, n2, n3, n4, n5⟩, ⟨n6, n7, n8, n9, n10, n11⟩, ⟨n12, n13, n14, n15, n16⟩, b, nb1, nb2⟩ := rl_n r
  obtain ⟨⟨e1, e2⟩, e3, e4, e5⟩ := E
  have Z := rl_sz r e1
  obtain ⟨v1, v2, v3, v4, v5, v6, v7⟩ := rl_tm r e1
  rw [hk] at v2 v3 v4 v5 v6 Z
  exact op_ar r E' hk (by omega) (by omega) (fun P hP => ax_fin_16 P (by omega) Z.2.2 e3 v3 hP) (by decide) hv hw hm
theorem op_22 (r : (rl_R NC NT N A T Pc D ob K cp cf mt op tk tp fp kd KN PN SZ oc of bt ba sl ac af fa fw fv wt wd wv mc yoc yof ybt ybp sv vr ow ed wa yh vl)) (E : en_F NT K KN SZ t 2 wt wd wa) (hk : KN t = 22) (hv : vb_R ob N (wv (kl_X KN K)) (vl (kl_Y KN K))) (hw : vb_R ob N (wv (kl_X KN K + 1)) (vl (kl_Y KN K + 1))) (hm : 802 * (200 - T) + kl_C KN PN SZ K + 1 < μ) : nx_S NC NT ns mn cp cf mt op tk tp fp sk kd py KN PN SZ μ (nI NC, nI NT, ns, mn, nI N, nI A, nI (kl_F K), nI (kl_W K + 1), nI (kl_X KN K + 2), -1, rs, nI Pc, nI T, nI D, cp, cf, mt, op, tk, tp, fp, sk, oc, of, bt, ba, rd, sl, ac, af, fa, fw, fv, wt, wd, wv, pr, mc) (nI NC, nI NT, ns, mn, nI (cu_O ob N), nI (N - cu_O ob N), nI A, nI (kl_Q KN K + 1), nI (kl_Y KN K + 2), nI (kl_F K), nI D, nI T, nI Pc, -4, cp, cf, mt, kd, tk, tp, sk, yoc, yof, ybt, ybp, sv, vr, ow, ed, wa, yh, vl, pe_P pr py Pc, mo, mb) := by
  have E' := E
  obtain ⟨⟨n1, n2, n3, n4, n5⟩, ⟨n6, n7, n8, n9, n10, n11⟩, ⟨n12, n13, n14, n15, n16⟩, b, nb1, nb2⟩ := rl_n r
  obtain ⟨⟨e1, e2⟩, e3, e4, e5⟩ := E
  have Z := rl_sz r e1
  obtain ⟨v1, v2, v3, v4, v5, v6, v7⟩ := rl_tm r e1
  rw [hk] at v2 v3 v4 v5 v6 Z
  exact op_ar r E' hk (by omega) (by omega) (fun P hP => ax_fin_17 P (by omega) Z.2.2 e3 v3 hP) (by decide) hv hw hm
theorem op_23 (r : (rl_R NC NT N A T Pc D ob K cp cf mt op tk tp fp kd KN PN SZ oc of bt ba sl ac af fa fw fv wt wd wv mc yoc yof ybt ybp sv vr ow ed wa yh vl)) (E : en_F NT K KN SZ t 2 wt wd wa) (hk : KN t = 23) (hv : vb_R ob N (wv (kl_X KN K)) (vl (kl_Y KN K))) (hw : vb_R ob N (wv (kl_X KN K + 1)) (vl (kl_Y KN K + 1))) (hm : 802 * (200 - T) + kl_C KN PN SZ K + 1 < μ) : nx_S NC NT ns mn cp cf mt op tk tp fp sk kd py KN PN SZ μ (nI NC, nI NT, ns, mn, nI N, nI A, nI (kl_F K), nI (kl_W K + 1), nI (kl_X KN K + 2), -1, rs, nI Pc, nI T, nI D, cp, cf, mt, op, tk, tp, fp, sk, oc, of, bt, ba, rd, sl, ac, af, fa, fw, fv, wt, wd, wv, pr, mc) (nI NC, nI NT, ns, mn, nI (cu_O ob N), nI (N - cu_O ob N), nI A, nI (kl_Q KN K + 1), nI (kl_Y KN K + 2), nI (kl_F K), nI D, nI T, nI Pc, -4, cp, cf, mt, kd, tk, tp, sk, yoc, yof, ybt, ybp, sv, vr, ow, ed, wa, yh, vl, pe_P pr py Pc, mo, mb) := by
  have E' := E
  obtain ⟨⟨n1, n2, n3, n4, n5⟩, ⟨n6, n7, n8, n9, n10, n11⟩, ⟨n12, n13, n14, n15, n16⟩, b, nb1, nb2⟩ := rl_n r
  obtain ⟨⟨e1, e2⟩, e3, e4, e5⟩ := E
  have Z := rl_sz r e1
  obtain ⟨v1, v2, v3, v4, v5, v6, v7⟩ := rl_tm r e1
  rw [hk] at v2 v3 v4 v5 v6 Z
  exact op_ar r E' hk (by omega) (by omega) (fun P hP => ax_fin_18 P (by omega) Z.2.2 e3 v3 hP) (by decide) hv hw hm
theorem op_25 (r : (rl_R NC NT N A T Pc D ob K cp cf mt op tk tp fp kd KN PN SZ oc of bt ba sl ac af fa fw fv wt wd wv mc yoc yof ybt ybp sv vr ow ed wa yh vl)) (h0 : t < NT ∧ kl_W K + kl_X KN K + SZ t ≤ 100 * (kl_F K + 1)) (e3 : wt (kl_W K) = nI t) (e4 : wd (kl_W K) = nI 2) (hk : KN t = 25) (hw : vb_R ob N (wv (kl_X KN K + 1)) (vl (kl_Y KN K))) (hm : 802 * (200 - T) + kl_C KN PN SZ K + 1 < μ) : nx_S NC NT ns mn cp cf mt op tk tp fp sk kd py KN PN SZ μ (nI NC, nI NT, ns, mn, nI N, nI A, nI (kl_F K), nI (kl_W K + 1), nI (kl_X KN K + 2), -1, rs, nI Pc, nI T, nI D, cp, cf, mt, op, tk, tp, fp, sk, oc, of, bt, ba, rd, sl, ac, af, fa, fw, fv, wt, wd, wv, pr, mc) (nI NC, nI NT, ns, mn, nI (cu_O ob N), nI (N - cu_O ob N), nI A, nI (kl_Q KN K), nI (kl_Y KN K + 1), nI (kl_F K), nI D, nI T, nI Pc, -4, cp, cf, mt, kd, tk, tp, sk, yoc, yof, ybt, ybp, sv, vr, ow, ed, wa, yh, vl, pe_P pr py Pc, mo, mb) := by
  obtain ⟨⟨n1, n2, n3, n4, n5⟩, ⟨n6, n7, n8, n9, n10, n11⟩, ⟨n12, n13, n14, n15, n16⟩, b, nb1, nb2⟩ := rl_n r
  have Z := rl_sz r h0.1
  obtain ⟨v1, v2, v3, v4, v5, v6, v7⟩ := rl_tm r h0.1
  rw [hk] at v2 v3 v4 v5 v6 Z
  exact nx_0 (fun P hP => xs_fin P (by omega) (by omega) Z.2.2 nb1 nb2 e3 e4 v4 (by decide) (by omega) (ax_fin_20 P (by omega) Z.2.2 e3 v3 (ax_then P (by omega) hP))) hm (cf_Vi (rl_cg r (fun _ _ => ⟨rfl, rfl⟩) (fun _ _ => ⟨rfl, rfl, rfl⟩) (fun i hi => pk_uLn (by omega)) (fun _ _ => ⟨rfl, rfl⟩) (fun _ _ => rfl)) (by rw [pk_uLs]; exact hw) (Nat.le_refl _))
end
end
section
theorem pg_c0 (KN PN SZ : Nat → Nat) (t : Nat) : pg_co KN PN SZ t 0 = 4 * SZ t := by
  unfold pg_co
  rw [if_neg (by omega)]
  show 4 * SZ t - 4 * 0 - 0 = 4 * SZ t
  omega
theorem pg_cn {KN : Nat → Nat} (PN SZ : Nat → Nat) {t d : Nat} (h : ¬ (KN t = 26 ∧ d = 2)) : pg_co KN PN SZ t d = 4 * SZ t - 4 * pg_sm SZ PN t d - d := if_neg h
section
variable {NC NT : Nat} {ns mn : Int32} {cp cf mt op tk tp fp sk kd py : Nat → Int32} {KN PN SZ : Nat → Nat}
variable {N A T Pc D : Nat} {ob : Nat → Bool} {K : List (Bool × Nat × Nat)} {rs : Int64} {oc bt ba rd ac af fa fw fv wt wd pr mc : Nat → Int32} {of sl wv : Nat → Int64} {yoc ybt ybp ow ed wa yh mo mb : Nat → Int32} {yof sv vr vl : Nat → Int64}
variable {μ t : Nat}
theorem pg_cs {d : Nat} (r : (rl_R NC NT N A T Pc D ob K cp cf mt op tk tp fp kd KN PN SZ oc of bt ba sl ac af fa fw fv wt wd wv mc yoc yof ybt ybp sv vr ow ed wa yh vl)) (ht : t < NT) (hd : d < KN t / 10) (h : ¬ (KN t = 26 ∧ d = 1)) : pg_co KN PN SZ t (d + 1) + 4 * SZ (PN (3 * t + d)) + 1 ≤ pg_co KN PN SZ t d ∧ SZ (PN (3 * t + d)) + (d + 1) ≤ SZ t := by
  have l := pg_fpl (rl_tm r ht).1
  have s := pg_sd r.1 ht (d + 1) (by omega)
  have s0 := pg_sd r.1 ht d (by omega)
  have z := (rl_tm r ht).2.2.2.2.2.2.1
  have q : pg_sm SZ PN t (d + 1) = pg_sm SZ PN t d + SZ (PN (3 * t + d)) := rfl
  by_cases h2 : KN t = 26
  · have : d = 0 := by omega
    subst this
    rw [pg_cn PN SZ (by omega), pg_cn PN SZ (by omega)]
    omega
  · rw [pg_cn PN SZ (by omega), pg_cn PN SZ (by omega)]
    omega
theorem pg_c1 {d : Nat} (r : (rl_R NC NT N A T Pc D ob K cp cf mt op tk tp fp kd KN PN SZ oc of bt ba sl ac af fa fw fv wt wd wv mc yoc yof ybt ybp sv vr ow ed wa yh vl)) (ht : t < NT) (hd : d ≤ KN t / 10) : 1 ≤ pg_co KN PN SZ t d := by
  have l := pg_fpl (rl_tm r ht).1
  have s := pg_sd r.1 ht d hd
  have z := (rl_tm r ht).2.2.2.2.2.2.1
  unfold pg_co
  split <;> omega
theorem cf_ps {d p : Nat} {wt' wd' wa' yh' : Nat → Int32} (r : (rl_R NC NT N A T Pc D ob K cp cf mt op tk tp fp kd KN PN SZ oc of bt ba sl ac af fa fw fv wt wd wv mc yoc yof ybt ybp sv vr ow ed wa yh vl)) (h0 : t < NT ∧ kl_W K + kl_X KN K + SZ t ≤ 100 * (kl_F K + 1)) (hd : 1 ≤ d ∧ d ≤ kl_d (KN t)) (hp : p < NT) (hs : SZ p + d ≤ SZ t) (a1 : ∀ i, i < kl_W K → wt' i = wt i ∧ wd' i = wd i) (a2 : ∀ i, i < kl_Q KN K → wa' i = wa i ∧ yh' i = yh i) (h1 : wt' (kl_W K) = nI t) (h2 : wd' (kl_W K) = nI d) (h3 : wt' (kl_W K + 1) = nI p) (h4 : wd' (kl_W K + 1) = 0) (h5 : ¬ (KN t = 25 ∧ d = 2) → wa' (kl_Q KN K) = nI (1024 * kl_A K + 8 * t + d)) (h6 : wa' (kl_Q KN K + kl_q (KN t) d) = nI (1024 * kl_A K + 8 * p + 0)) (h7 : ∀ j, j < kl_ny (KN t) d → vb_R ob N (wv (kl_X KN K + j)) (vl (kl_Y KN K + j))) (hμ : 802 * (200 - T) + (kl_C KN PN SZ K + pg_co KN PN SZ t d) + 4 * SZ p ≤ μ) : cf_V NC NT ns mn cp cf mt op tk tp fp sk kd py KN PN SZ μ (nI NC, nI NT, ns, mn, nI N, nI A, nI (kl_F ((true, t, d) :: K)), nI (kl_W ((true, t, d) :: K) + 1), nI (kl_X KN ((true, t, d) :: K)), -1, rs, nI Pc, nI T, nI D, cp, cf, mt, op, tk, tp, fp, sk, oc, of, bt, ba, rd, sl, ac, af, fa, fw, fv, wt', wd', wv, pr, mc) (nI NC, nI NT, ns, mn, nI (cu_O ob N), nI (N - cu_O ob N), nI A, nI (kl_Q KN ((true, t, d) :: K) + 1), nI (kl_Y KN ((true, t, d) :: K)), nI (kl_F ((true, t, d) :: K)), nI D, nI T, nI Pc, -4, cp, cf, mt, kd, tk, tp, sk, yoc, yof, ybt, ybp, sv, vr, ow, ed, wa', yh', vl, pe_P pr py Pc, mo, mb) ∨ cf_E NC NT ns mn cp cf mt op tk tp fp sk kd py KN PN SZ μ (nI NC, nI NT, ns, mn, nI N, nI A, nI (kl_F ((true, t, d) :: K)), nI (kl_W ((true, t, d) :: K) + 1), nI (kl_X KN ((true, t, d) :: K)), -1, rs, nI Pc, nI T, nI D, cp, cf, mt, op, tk, tp, fp, sk, oc, of, bt, ba, rd, sl, ac, af, fa, fw, fv, wt', wd', wv, pr, mc) (nI NC, nI NT, ns, mn, nI (cu_O ob N), nI (N - cu_O ob N), nI A, nI (kl_Q KN ((true, t, d) :: K) + 1), nI (kl_Y KN ((true, t, d) :: K)), nI (kl_F ((true, t, d) :: K)), nI D, nI T, nI Pc, -4, cp, cf, mt, kd, tk, tp, sk, yoc, yof, ybt, ybp, sv, vr, ow, ed, wa', yh', vl, pe_P pr py Pc, mo, mb) := by
  refine cf_Ei (K := (true, t, d) :: K) (t := p) (rl_ent (rl_cg r a1 (fun _ _ => ⟨rfl, rfl, rfl⟩) (fun _ _ => rfl) a2 (fun _ _ => rfl)) h0 hd h1 h2 h5 h7) ⟨hp, ?_⟩ h3 h4 h6 hμ
  show kl_W K + 1 + (kl_X KN K + kl_nx (KN t) d) + SZ p ≤ 100 * (kl_F K + 1)
  have : kl_nx (KN t) d ≤ d - 1 := by
    unfold kl_nx
    split <;> omega
  omega
theorem kl_dn {k d : Nat} (h : pg_v k) (h2 : d ≤ k / 10) (h3 : 10 ≤ k) (h4 : k ≠ 13) (h5 : k ≠ 30 ∨ d ≤ 1) : d ≤ kl_d k := by
  unfold kl_d pg_fp
  unfold pg_v at h
  rw [if_neg h4]
  split
  · omega
  · split <;> omega
theorem op_p0 (r : (rl_R NC NT N A T Pc D ob K cp cf mt op tk tp fp kd KN PN SZ oc of bt ba sl ac af fa fw fv wt wd wv mc yoc yof ybt ybp sv vr ow ed wa yh vl)) (E : en_F NT K KN SZ t 0 wt wd wa) {k : Nat} (hk : KN t = k) (hk1 : 10 ≤ k) (hk2 : k ≠ 13) (hm : 802 * (200 - T) + kl_C KN PN SZ K + 4 * SZ t ≤ μ) : nx_S NC NT ns mn cp cf mt op tk tp fp sk kd py KN PN SZ μ (nI NC, nI NT, ns, mn, nI N, nI A, nI (kl_F K), nI (kl_W K + 1), nI (kl_X KN K), -1, rs, nI Pc, nI T, nI D, cp, cf, mt, op, tk, tp, fp, sk, oc, of, bt, ba, rd, sl, ac, af, fa, fw, fv, wt, wd, wv, pr, mc) (nI NC, nI NT, ns, mn, nI (cu_O ob N), nI (N - cu_O ob N), nI A, nI (kl_Q KN K + 1), nI (kl_Y KN K), nI (kl_F K), nI D, nI T, nI Pc, -4, cp, cf, mt, kd, tk, tp, sk, yoc, yof, ybt, ybp, sv, vr, ow, ed, wa, yh, vl, pe_P pr py Pc, mo, mb) := by
  obtain ⟨⟨n1, n2, n3, n4, n5⟩, ⟨n6, n7, n8, n9, n10, n11⟩, ⟨n12, n13, n14, n15, n16⟩, b, nb1, nb2⟩ := rl_n r
  obtain ⟨⟨e1, e2⟩, e3, e4, e5⟩ := E
  have Z := rl_sz r e1
  obtain ⟨v1, v2, v3, v4, v5, v6, v7⟩ := rl_tm r e1
  rw [hk] at v2 v3 v4 v5 v6 Z
  have lv := v1
  rw [hk] at lv
  obtain ⟨p1, p2⟩ := v6 0 (by unfold pg_v at lv; omega)
  have c : pg_co KN PN SZ t 1 + 4 * SZ (PN (3 * t + 0)) + 1 ≤ pg_co KN PN SZ t 0 ∧ SZ (PN (3 * t + 0)) + 1 ≤ SZ t := pg_cs r e1 (d := 0) (by rw [hk]; unfold pg_v at lv; omega) (by omega)
  rw [pg_c0] at c
  have C := cf_ps (μ := 802 * (200 - T) + (kl_C KN PN SZ K + pg_co KN PN SZ t 1) + 4 * SZ (PN (3 * t + 0))) (py := py) (ns := ns) (mn := mn) (sk := sk) (rs := rs) (rd := rd) (pr := pr) (mo := mo) (mb := mb) (d := 1) (p := PN (3 * t + 0)) (wt' := upd wt (kl_W K + 1) (nI (PN (3 * t + 0)))) (wd' := upd (upd wd (kl_W K) (nI 1)) (kl_W K + 1) 0) (wa' := upd (upd wa (kl_Q KN K) (nI (1024 * kl_A K + 8 * t + 1))) (kl_Q KN K + 1) (nI (1024 * kl_A K + 8 * PN (3 * t + 0) + 0))) (yh' := upd (upd yh (kl_Q KN K) (nI (kl_Y KN K))) (kl_Q KN K + 1) (nI (kl_Y KN K))) r ⟨e1, e2⟩ ⟨by omega, kl_dn v1 (by unfold pg_v at lv; omega) (by omega) (by omega) (Or.inr (by omega))⟩ (by omega) (by omega) (fun i hi => ⟨pk_un (by omega), by rw [pk_un (by omega), pk_un (by omega)]⟩) (fun i hi => ⟨by rw [pk_un (by omega), pk_un (by omega)], by rw [pk_un (by omega), pk_un (by omega)]⟩) (by rw [pk_un (by omega)]; exact e3) (by rw [pk_un (by omega), pk_us]) pk_us pk_us (fun _ => by rw [pk_un (by omega), pk_us]) (by rw [show kl_q (KN t) 1 = 1 from if_neg (by omega), pk_us]) (fun j hj => absurd hj (by unfold kl_ny; split <;> omega)) (Nat.le_refl _)
  rw [show kl_X KN ((true, t, 1) :: K) = kl_X KN K from (show kl_X KN K + kl_nx (KN t) 1 = kl_X KN K by unfold kl_nx; split <;> omega), show kl_Y KN ((true, t, 1) :: K) = kl_Y KN K from (show kl_Y KN K + kl_ny (KN t) 1 = kl_Y KN K by unfold kl_ny; split <;> omega), show kl_Q KN ((true, t, 1) :: K) = kl_Q KN K + 1 from (show kl_Q KN K + kl_q (KN t) 1 = kl_Q KN K + 1 by rw [show kl_q (KN t) 1 = 1 from if_neg (by omega)])] at C
  have hf : 0 < pg_fp k ∧ pg_fp k ≤ 3 := by
    unfold pg_fp
    unfold pg_v at lv
    rw [if_neg hk2]
    split <;> omega
  exact nx_1 (fun P hP => xs_nxt P (by omega) (by omega) Z.2.2 nb1 nb2 e3 e4 v4 hf.1 hf.2 p1 hP) (by omega) (fun P hP => ay_step_E _ (by omega) (by omega) Z.2.2 e5 (ay_bg_p P Z.2.2 v2 hk1 (by unfold pg_v at lv; omega) hk2 (by omega) p1 hP)) (by omega) C
theorem op_p1 (r : (rl_R NC NT N A T Pc D ob K cp cf mt op tk tp fp kd KN PN SZ oc of bt ba sl ac af fa fw fv wt wd wv mc yoc yof ybt ybp sv vr ow ed wa yh vl)) (E : en_F NT K KN SZ t 1 wt wd wa) {k : Nat} (hk : KN t = k) (hk1 : 20 ≤ k) (hk2 : k < 30) (hk5 : k ≠ 25) (hk6 : k ≠ 26) (hv : vb_R ob N (wv (kl_X KN K)) (vl (kl_Y KN K))) (hm : 802 * (200 - T) + (kl_C KN PN SZ K + pg_co KN PN SZ t 1) + 1 ≤ μ) : nx_S NC NT ns mn cp cf mt op tk tp fp sk kd py KN PN SZ μ (nI NC, nI NT, ns, mn, nI N, nI A, nI (kl_F K), nI (kl_W K + 1), nI (kl_X KN K + 1), -1, rs, nI Pc, nI T, nI D, cp, cf, mt, op, tk, tp, fp, sk, oc, of, bt, ba, rd, sl, ac, af, fa, fw, fv, wt, wd, wv, pr, mc) (nI NC, nI NT, ns, mn, nI (cu_O ob N), nI (N - cu_O ob N), nI A, nI (kl_Q KN K + 1), nI (kl_Y KN K + 1), nI (kl_F K), nI D, nI T, nI Pc, -4, cp, cf, mt, kd, tk, tp, sk, yoc, yof, ybt, ybp, sv, vr, ow, ed, wa, yh, vl, pe_P pr py Pc, mo, mb) := by
  obtain ⟨⟨n1, n2, n3, n4, n5⟩, ⟨n6, n7, n8, n9, n10, n11⟩, ⟨n12, n13, n14, n15, n16⟩, b, nb1, nb2⟩ := rl_n r
  obtain ⟨⟨e1, e2⟩, e3, e4, e5⟩ := E
  have Z := rl_sz r e1
  obtain ⟨v1, v2, v3, v4, v5, v6, v7⟩ := rl_tm r e1
  rw [hk] at v2 v3 v4 v5 v6 Z
  obtain ⟨p1, p2⟩ := v6 1 (by omega)
  have c : pg_co KN PN SZ t 2 + 4 * SZ (PN (3 * t + 1)) + 1 ≤ pg_co KN PN SZ t 1 ∧ SZ (PN (3 * t + 1)) + 2 ≤ SZ t := pg_cs r e1 (d := 1) (by rw [hk]; omega) (by omega)
  have C := cf_ps (μ := 802 * (200 - T) + (kl_C KN PN SZ K + pg_co KN PN SZ t 2) + 4 * SZ (PN (3 * t + 1))) (py := py) (ns := ns) (mn := mn) (sk := sk) (rs := rs) (rd := rd) (pr := pr) (mo := mo) (mb := mb) (d := 2) (p := PN (3 * t + 1)) (wt' := upd wt (kl_W K + 1) (nI (PN (3 * t + 1)))) (wd' := upd (upd wd (kl_W K) (nI 2)) (kl_W K + 1) 0) (wa' := upd (upd wa (kl_Q KN K) (nI (1024 * kl_A K + 8 * t + 2))) (kl_Q KN K + 1) (nI (1024 * kl_A K + 8 * PN (3 * t + 1) + 0))) (yh' := upd (upd yh (kl_Q KN K) (nI (kl_Y KN K + 1))) (kl_Q KN K + 1) (nI (kl_Y KN K + 1))) r ⟨e1, e2⟩ ⟨by omega, kl_dn v1 (by omega) (by omega) (by omega) (Or.inl (by omega))⟩ (by omega) (by omega) (fun i hi => ⟨pk_un (by omega), by rw [pk_un (by omega), pk_un (by omega)]⟩) (fun i hi => ⟨by rw [pk_un (by omega), pk_un (by omega)], by rw [pk_un (by omega), pk_un (by omega)]⟩) (by rw [pk_un (by omega)]; exact e3) (by rw [pk_un (by omega), pk_us]) pk_us pk_us (fun _ => by rw [pk_un (by omega), pk_us]) (by rw [show kl_q (KN t) 2 = 1 from if_neg (by omega), pk_us]) (fun j hj => by
      have : j = 0 := by
        unfold kl_ny at hj
        rw [if_neg (by omega)] at hj
        omega
      subst this
      exact hv) (Nat.le_refl _)
  rw [show kl_X KN ((true, t, 2) :: K) = kl_X KN K + 1 from (show kl_X KN K + kl_nx (KN t) 2 = kl_X KN K + 1 by rw [show kl_nx (KN t) 2 = 1 from if_neg (by omega)]), show kl_Y KN ((true, t, 2) :: K) = kl_Y KN K + 1 from (show kl_Y KN K + kl_ny (KN t) 2 = kl_Y KN K + 1 by rw [show kl_ny (KN t) 2 = 1 from if_neg (by omega)]), show kl_Q KN ((true, t, 2) :: K) = kl_Q KN K + 1 from (show kl_Q KN K + kl_q (KN t) 2 = kl_Q KN K + 1 by rw [show kl_q (KN t) 2 = 1 from if_neg (by omega)])] at C
  have hf : 1 < pg_fp k ∧ pg_fp k ≤ 3 := by
    unfold pg_fp
    rw [if_neg (by omega), if_neg (by omega)]
    omega
  exact nx_1 (fun P hP => xs_nxt P (by omega) (by omega) Z.2.2 nb1 nb2 e3 e4 v4 hf.1 hf.2 p1 hP) (by omega) (fun P hP => ay_step_2 (s := 1) _ (by omega) (by omega) Z.2.2 (by omega) (by omega) e5 v2 hk1 hk2 (ay_t_1 P Z.2.2 v2 hk1 hk2 hk5 hk6 (by omega) p1 hP)) (by omega) C
theorem op_p25 (r : (rl_R NC NT N A T Pc D ob K cp cf mt op tk tp fp kd KN PN SZ oc of bt ba sl ac af fa fw fv wt wd wv mc yoc yof ybt ybp sv vr ow ed wa yh vl)) (E : en_F NT K KN SZ t 1 wt wd wa) (hk : KN t = 25) (hm : 802 * (200 - T) + (kl_C KN PN SZ K + pg_co KN PN SZ t 1) + 1 ≤ μ) : nx_S NC NT ns mn cp cf mt op tk tp fp sk kd py KN PN SZ μ (nI NC, nI NT, ns, mn, nI N, nI A, nI (kl_F K), nI (kl_W K + 1), nI (kl_X KN K + 1), -1, rs, nI Pc, nI T, nI D, cp, cf, mt, op, tk, tp, fp, sk, oc, of, bt, ba, rd, sl, ac, af, fa, fw, fv, wt, wd, wv, pr, mc) (nI NC, nI NT, ns, mn, nI (cu_O ob N), nI (N - cu_O ob N), nI A, nI (kl_Q KN K + 1), nI (kl_Y KN K + 1), nI (kl_F K), nI D, nI T, nI Pc, -4, cp, cf, mt, kd, tk, tp, sk, yoc, yof, ybt, ybp, sv, vr, ow, ed, wa, yh, vl, pe_P pr py Pc, mo, mb) := by
  obtain ⟨⟨n1, n2, n3, n4, n5⟩, ⟨n6, n7, n8, n9, n10, n11⟩, ⟨n12, n13, n14, n15, n16⟩, b, nb1, nb2⟩ := rl_n r
  obtain ⟨⟨e1, e2⟩, e3, e4, e5⟩ := E
  have Z := rl_sz r e1
  obtain ⟨v1, v2, v3, v4, v5, v6, v7⟩ := rl_tm r e1
  rw [hk] at v2 v3 v4 v5 v6 Z
  obtain ⟨p1, p2⟩ := v6 1 (by omega)
  have c : pg_co KN PN SZ t 2 + 4 * SZ (PN (3 * t + 1)) + 1 ≤ pg_co KN PN SZ t 1 ∧ SZ (PN (3 * t + 1)) + 2 ≤ SZ t := pg_cs r e1 (d := 1) (by rw [hk]; omega) (by omega)
  have C := cf_ps (μ := 802 * (200 - T) + (kl_C KN PN SZ K + pg_co KN PN SZ t 2) + 4 * SZ (PN (3 * t + 1))) (py := py) (ns := ns) (mn := mn) (sk := sk) (rs := rs) (rd := rd) (pr := pr) (mo := mo) (mb := mb) (d := 2) (p := PN (3 * t + 1)) (wt' := upd wt (kl_W K + 1) (nI (PN (3 * t + 1)))) (wd' := upd (upd wd (kl_W K) (nI 2)) (kl_W K + 1) 0) (wa' := upd wa (kl_Q KN K) (nI (1024 * kl_A K + 8 * PN (3 * t + 1) + 0))) (yh' := upd yh (kl_Q KN K) (nI (kl_Y KN K))) r ⟨e1, e2⟩ ⟨by omega, kl_dn v1 (by omega) (by omega) (by omega) (Or.inl (by omega))⟩ (by omega) (by omega) (fun i hi => ⟨pk_un (by omega), by rw [pk_un (by omega), pk_un (by omega)]⟩) (fun i hi => ⟨pk_un (by omega), pk_un (by omega)⟩) (by rw [pk_un (by omega)]; exact e3) (by rw [pk_un (by omega), pk_us]) pk_us pk_us (fun z => absurd ⟨hk, rfl⟩ z) (by rw [show kl_q (KN t) 2 = 0 from if_pos ⟨hk, rfl⟩]; exact pk_us) (fun j hj => by
      unfold kl_ny at hj
      rw [if_pos (Or.inr hk)] at hj
      omega) (Nat.le_refl _)
  rw [show kl_X KN ((true, t, 2) :: K) = kl_X KN K + 1 from (show kl_X KN K + kl_nx (KN t) 2 = kl_X KN K + 1 by rw [show kl_nx (KN t) 2 = 1 from if_neg (by omega)]), show kl_Y KN ((true, t, 2) :: K) = kl_Y KN K from (show kl_Y KN K + kl_ny (KN t) 2 = kl_Y KN K by rw [show kl_ny (KN t) 2 = 0 from if_pos (Or.inr hk), Nat.add_zero]), show kl_Q KN ((true, t, 2) :: K) = kl_Q KN K from (show kl_Q KN K + kl_q (KN t) 2 = kl_Q KN K by rw [show kl_q (KN t) 2 = 0 from if_pos ⟨hk, rfl⟩, Nat.add_zero])] at C
  exact nx_1 (fun P hP => xs_nxt (m := 2) P (by omega) (by omega) Z.2.2 nb1 nb2 e3 e4 v4 (by omega) (by omega) p1 hP) (by omega) (fun P hP => ay_step_2 (s := 1) _ (by omega) (by omega) Z.2.2 (by omega) (by omega) e5 v2 (by omega) (by omega) (ay_t_25 P Z.2.2 v2 (by omega) p1 hP)) (by omega) C
end
end
section
section
variable {NC NT : Nat} {ns mn : Int32} {cp cf mt op tk tp fp sk kd py : Nat → Int32} {KN PN SZ : Nat → Nat}
variable {N A T Pc D : Nat} {ob : Nat → Bool} {K : List (Bool × Nat × Nat)} {rs : Int64} {oc bt ba rd ac af fa fw fv wt wd pr mc : Nat → Int32} {of sl wv : Nat → Int64} {yoc ybt ybp ow ed wa yh mo mb : Nat → Int32} {yof sv vr vl : Nat → Int64}
variable {μ t : Nat}
theorem pg_cz {d : Nat} (r : (rl_R NC NT N A T Pc D ob K cp cf mt op tk tp fp kd KN PN SZ oc of bt ba sl ac af fa fw fv wt wd wv mc yoc yof ybt ybp sv vr ow ed wa yh vl)) (ht : t < NT) (hd : d < KN t / 10) : SZ (PN (3 * t + d)) + (d + 1) ≤ SZ t := by
  have s := pg_sd r.1 ht (d + 1) (by omega)
  have s0 := pg_sd r.1 ht d (by omega)
  have z := (rl_tm r ht).2.2.2.2.2.2.1
  have q : pg_sm SZ PN t (d + 1) = pg_sm SZ PN t d + SZ (PN (3 * t + d)) := rfl
  omega
theorem op_p31a (r : (rl_R NC NT N A T Pc D ob K cp cf mt op tk tp fp kd KN PN SZ oc of bt ba sl ac af fa fw fv wt wd wv mc yoc yof ybt ybp sv vr ow ed wa yh vl)) (E : en_F NT K KN SZ t 1 wt wd wa) (hk : KN t = 31) (hv : vb_R ob N (wv (kl_X KN K)) (vl (kl_Y KN K))) (hm : 802 * (200 - T) + (kl_C KN PN SZ K + pg_co KN PN SZ t 1) + 1 ≤ μ) : nx_S NC NT ns mn cp cf mt op tk tp fp sk kd py KN PN SZ μ (nI NC, nI NT, ns, mn, nI N, nI A, nI (kl_F K), nI (kl_W K + 1), nI (kl_X KN K + 1), -1, rs, nI Pc, nI T, nI D, cp, cf, mt, op, tk, tp, fp, sk, oc, of, bt, ba, rd, sl, ac, af, fa, fw, fv, wt, wd, wv, pr, mc) (nI NC, nI NT, ns, mn, nI (cu_O ob N), nI (N - cu_O ob N), nI A, nI (kl_Q KN K + 1), nI (kl_Y KN K + 1), nI (kl_F K), nI D, nI T, nI Pc, -4, cp, cf, mt, kd, tk, tp, sk, yoc, yof, ybt, ybp, sv, vr, ow, ed, wa, yh, vl, pe_P pr py Pc, mo, mb) := by
  obtain ⟨⟨n1, n2, n3, n4, n5⟩, ⟨n6, n7, n8, n9, n10, n11⟩, ⟨n12, n13, n14, n15, n16⟩, b, nb1, nb2⟩ := rl_n r
  obtain ⟨⟨e1, e2⟩, e3, e4, e5⟩ := E
  have Z := rl_sz r e1
  obtain ⟨v1, v2, v3, v4, v5, v6, v7⟩ := rl_tm r e1
  rw [hk] at v2 v3 v4 v5 v6 Z
  obtain ⟨p1, p2⟩ := v6 1 (by omega)
  have c : pg_co KN PN SZ t 2 + 4 * SZ (PN (3 * t + 1)) + 1 ≤ pg_co KN PN SZ t 1 ∧ SZ (PN (3 * t + 1)) + 2 ≤ SZ t := pg_cs r e1 (d := 1) (by rw [hk]; omega) (by omega)
  have C := cf_ps (μ := 802 * (200 - T) + (kl_C KN PN SZ K + pg_co KN PN SZ t 2) + 4 * SZ (PN (3 * t + 1))) (py := py) (ns := ns) (mn := mn) (sk := sk) (rs := rs) (rd := rd) (pr := pr) (mo := mo) (mb := mb) (d := 2) (p := PN (3 * t + 1)) (wt' := upd wt (kl_W K + 1) (nI (PN (3 * t + 1)))) (wd' := upd (upd wd (kl_W K) (nI 2)) (kl_W K + 1) 0) (wa' := upd (upd wa (kl_Q KN K) (nI (1024 * kl_A K + 8 * t + 2))) (kl_Q KN K + 1) (nI (1024 * kl_A K + 8 * PN (3 * t + 1) + 0))) (yh' := upd (upd yh (kl_Q KN K) (nI (kl_Y KN K + 1))) (kl_Q KN K + 1) (nI (kl_Y KN K + 1))) r ⟨e1, e2⟩ ⟨by omega, kl_dn v1 (by omega) (by omega) (by omega) (Or.inl (by omega))⟩ (by omega) (by omega) (fun i hi => ⟨pk_un (by omega), by rw [pk_un (by omega), pk_un (by omega)]⟩) (fun i hi => ⟨by rw [pk_un (by omega), pk_un (by omega)], by rw [pk_un (by omega), pk_un (by omega)]⟩) (by rw [pk_un (by omega)]; exact e3) (by rw [pk_un (by omega), pk_us]) pk_us pk_us (fun _ => by rw [pk_un (by omega), pk_us]) (by rw [show kl_q (KN t) 2 = 1 from if_neg (by omega), pk_us]) (fun j hj => by
      have : j = 0 := by
        unfold kl_ny at hj
        rw [if_neg (by omega)] at hj
        omega
      subst this
      exact hv) (Nat.le_refl _)
  rw [show kl_X KN ((true, t, 2) :: K) = kl_X KN K + 1 from (show kl_X KN K + kl_nx (KN t) 2 = kl_X KN K + 1 by rw [show kl_nx (KN t) 2 = 1 from if_neg (by omega)]), show kl_Y KN ((true, t, 2) :: K) = kl_Y KN K + 1 from (show kl_Y KN K + kl_ny (KN t) 2 = kl_Y KN K + 1 by rw [show kl_ny (KN t) 2 = 1 from if_neg (by omega)]), show kl_Q KN ((true, t, 2) :: K) = kl_Q KN K + 1 from (show kl_Q KN K + kl_q (KN t) 2 = kl_Q KN K + 1 by rw [show kl_q (KN t) 2 = 1 from if_neg (by omega)])] at C
  exact nx_1 (fun P hP => xs_nxt (m := 3) P (by omega) (by omega) Z.2.2 nb1 nb2 e3 e4 v4 (by omega) (by omega) p1 hP) (by omega) (fun P hP => ay_step_3 (s := 1) _ (by omega) (by omega) Z.2.2 (by omega) (by omega) e5 v2 (by decide) (by decide) (ay_h_n (s := 1) P Z.2.2 v2 (by omega) (by omega) p1 hP)) (by omega) C
theorem op_p31b (r : (rl_R NC NT N A T Pc D ob K cp cf mt op tk tp fp kd KN PN SZ oc of bt ba sl ac af fa fw fv wt wd wv mc yoc yof ybt ybp sv vr ow ed wa yh vl)) (E : en_F NT K KN SZ t 2 wt wd wa) (hk : KN t = 31) (hv : vb_R ob N (wv (kl_X KN K)) (vl (kl_Y KN K))) (hw : vb_R ob N (wv (kl_X KN K + 1)) (vl (kl_Y KN K + 1))) (hm : 802 * (200 - T) + (kl_C KN PN SZ K + pg_co KN PN SZ t 2) + 1 ≤ μ) : nx_S NC NT ns mn cp cf mt op tk tp fp sk kd py KN PN SZ μ (nI NC, nI NT, ns, mn, nI N, nI A, nI (kl_F K), nI (kl_W K + 1), nI (kl_X KN K + 2), -1, rs, nI Pc, nI T, nI D, cp, cf, mt, op, tk, tp, fp, sk, oc, of, bt, ba, rd, sl, ac, af, fa, fw, fv, wt, wd, wv, pr, mc) (nI NC, nI NT, ns, mn, nI (cu_O ob N), nI (N - cu_O ob N), nI A, nI (kl_Q KN K + 1), nI (kl_Y KN K + 2), nI (kl_F K), nI D, nI T, nI Pc, -4, cp, cf, mt, kd, tk, tp, sk, yoc, yof, ybt, ybp, sv, vr, ow, ed, wa, yh, vl, pe_P pr py Pc, mo, mb) := by
  obtain ⟨⟨n1, n2, n3, n4, n5⟩, ⟨n6, n7, n8, n9, n10, n11⟩, ⟨n12, n13, n14, n15, n16⟩, b, nb1, nb2⟩ := rl_n r
  obtain ⟨⟨e1, e2⟩, e3, e4, e5⟩ := E
  have Z := rl_sz r e1
  obtain ⟨v1, v2, v3, v4, v5, v6, v7⟩ := rl_tm r e1
  rw [hk] at v2 v3 v4 v5 v6 Z
  obtain ⟨p1, p2⟩ := v6 2 (by omega)
  have c : pg_co KN PN SZ t 3 + 4 * SZ (PN (3 * t + 2)) + 1 ≤ pg_co KN PN SZ t 2 ∧ SZ (PN (3 * t + 2)) + 3 ≤ SZ t := pg_cs r e1 (d := 2) (by rw [hk]; omega) (by omega)
  have C := cf_ps (μ := 802 * (200 - T) + (kl_C KN PN SZ K + pg_co KN PN SZ t 3) + 4 * SZ (PN (3 * t + 2))) (py := py) (ns := ns) (mn := mn) (sk := sk) (rs := rs) (rd := rd) (pr := pr) (mo := mo) (mb := mb) (d := 3) (p := PN (3 * t + 2)) (wt' := upd wt (kl_W K + 1) (nI (PN (3 * t + 2)))) (wd' := upd (upd wd (kl_W K) (nI 3)) (kl_W K + 1) 0) (wa' := upd (upd wa (kl_Q KN K) (nI (1024 * kl_A K + 8 * t + 3))) (kl_Q KN K + 1) (nI (1024 * kl_A K + 8 * PN (3 * t + 2) + 0))) (yh' := upd (upd yh (kl_Q KN K) (nI (kl_Y KN K + 2))) (kl_Q KN K + 1) (nI (kl_Y KN K + 2))) r ⟨e1, e2⟩ ⟨by omega, kl_dn v1 (by omega) (by omega) (by omega) (Or.inl (by omega))⟩ (by omega) (by omega) (fun i hi => ⟨pk_un (by omega), by rw [pk_un (by omega), pk_un (by omega)]⟩) (fun i hi => ⟨by rw [pk_un (by omega), pk_un (by omega)], by rw [pk_un (by omega), pk_un (by omega)]⟩) (by rw [pk_un (by omega)]; exact e3) (by rw [pk_un (by omega), pk_us]) pk_us pk_us (fun _ => by rw [pk_un (by omega), pk_us]) (by rw [show kl_q (KN t) 3 = 1 from if_neg (by omega), pk_us]) (fun j hj => by
      have : j = 0 ∨ j = 1 := by
        unfold kl_ny at hj
        rw [if_neg (by omega)] at hj
        omega
      rcases this with rfl | rfl
      · exact hv
      · exact hw) (Nat.le_refl _)
  rw [show kl_X KN ((true, t, 3) :: K) = kl_X KN K + 2 from (show kl_X KN K + kl_nx (KN t) 3 = kl_X KN K + 2 by rw [show kl_nx (KN t) 3 = 2 from if_neg (by omega)]), show kl_Y KN ((true, t, 3) :: K) = kl_Y KN K + 2 from (show kl_Y KN K + kl_ny (KN t) 3 = kl_Y KN K + 2 by rw [show kl_ny (KN t) 3 = 2 from if_neg (by omega)]), show kl_Q KN ((true, t, 3) :: K) = kl_Q KN K + 1 from (show kl_Q KN K + kl_q (KN t) 3 = kl_Q KN K + 1 by rw [show kl_q (KN t) 3 = 1 from if_neg (by omega)])] at C
  exact nx_1 (fun P hP => xs_nxt (m := 3) P (by omega) (by omega) Z.2.2 nb1 nb2 e3 e4 v4 (by omega) (by omega) p1 hP) (by omega) (fun P hP => ay_step_3 (s := 2) _ (by omega) (by omega) Z.2.2 (by omega) (by omega) e5 v2 (by decide) (by decide) (ay_h_n (s := 2) P Z.2.2 v2 (by omega) (by omega) p1 hP)) (by omega) C
/-! loop -/
theorem op_26a (r : (rl_R NC NT N A T Pc D ob K cp cf mt op tk tp fp kd KN PN SZ oc of bt ba sl ac af fa fw fv wt wd wv mc yoc yof ybt ybp sv vr ow ed wa yh vl)) (E : en_F NT K KN SZ t 1 wt wd wa) (hk : KN t = 26) (hv : vb_R ob N (wv (kl_X KN K)) (vl (kl_Y KN K))) (hm : 802 * (200 - T) + (kl_C KN PN SZ K + pg_co KN PN SZ t 1) + 1 ≤ μ) : nx_S NC NT ns mn cp cf mt op tk tp fp sk kd py KN PN SZ μ (nI NC, nI NT, ns, mn, nI N, nI A, nI (kl_F K), nI (kl_W K + 1), nI (kl_X KN K + 1), -1, rs, nI Pc, nI T, nI D, cp, cf, mt, op, tk, tp, fp, sk, oc, of, bt, ba, rd, sl, ac, af, fa, fw, fv, wt, wd, wv, pr, mc) (nI NC, nI NT, ns, mn, nI (cu_O ob N), nI (N - cu_O ob N), nI A, nI (kl_Q KN K + 1), nI (kl_Y KN K + 1), nI (kl_F K), nI D, nI T, nI Pc, -4, cp, cf, mt, kd, tk, tp, sk, yoc, yof, ybt, ybp, sv, vr, ow, ed, wa, yh, vl, pe_P pr py Pc, mo, mb) := by
  obtain ⟨⟨n1, n2, n3, n4, n5⟩, ⟨n6, n7, n8, n9, n10, n11⟩, ⟨n12, n13, n14, n15, n16⟩, b, nb1, nb2⟩ := rl_n r
  obtain ⟨⟨e1, e2⟩, e3, e4, e5⟩ := E
  have Z := rl_sz r e1
  obtain ⟨v1, v2, v3, v4, v5, v6, v7⟩ := rl_tm r e1
  rw [hk] at v2 v3 v4 v5 v6 Z
  have c1 : 1 ≤ pg_co KN PN SZ t 1 := pg_c1 r e1 (by rw [hk]; omega)
  have w2 : ¬ wd (kl_W K) = 2 := by rw [e4]; decide
  by_cases h2 : vb_T (wv (kl_X KN K)) = 2
  · have h2' : vb_T (vl (kl_Y KN K)) = 2 := by rw [← vB_T hv]; exact h2
    have e0 := (vB_2 hv h2).1
    by_cases h0 : (wv (kl_X KN K)).toInt32 = 0
    · exact nx_U r ⟨⟨e1, e2⟩, e3, e4, e5⟩ (by rw [hk]; decide) (by omega) (fun P hP => ax_fin_21 P (by omega) Z.2.2 e3 v3 (ax_loop_0 P (by omega) (by omega) w2 h2 h0 hP)) (fun P hP => ay_step_2 (s := 1) _ (by omega) (by omega) Z.2.2 (by omega) (by omega) e5 v2 (by decide) (by decide) (ay_t_26 P Z.2.2 v2 (ay_lp_0 P (by omega) h2' (by rw [e0]; exact h0) hP))) (by omega) (cf_put r (Or.inl ⟨rfl, rfl⟩) (Nat.le_refl _))
    · by_cases hT : T = 200
      · subst hT
        exact nx_UF r ⟨⟨e1, e2⟩, e3, e4, e5⟩ (by rw [hk]; decide) (by omega) (fun P hP => ax_fin_21 P (by omega) Z.2.2 e3 v3 (ax_loop_t P (by omega) (by omega) w2 h2 h0 hP)) (fun P hP => ay_step_2 (s := 1) _ (by omega) (by omega) Z.2.2 (by omega) (by omega) e5 v2 (by decide) (by decide) (ay_t_26 P Z.2.2 v2 (ay_lp_t P (by omega) h2' (by rw [e0]; exact h0) hP))) (by omega) (fr_n r (Or.inr (Or.inl rfl)))
      · obtain ⟨p1, p2⟩ := v6 1 (by omega)
        have cz : SZ (PN (3 * t + 1)) + 2 ≤ SZ t := pg_cz r e1 (d := 1) (by rw [hk]; omega)
        have co2 : pg_co KN PN SZ t 2 = 4 * SZ t + 1 := if_pos ⟨hk, rfl⟩
        have C := cf_ps (μ := 802 * (200 - (T + 1)) + (kl_C KN PN SZ K + pg_co KN PN SZ t 2) + 4 * SZ (PN (3 * t + 1))) (py := py) (ns := ns) (mn := mn) (sk := sk) (rs := rs) (rd := rd) (pr := pr) (mo := mo) (mb := mb) (d := 2) (p := PN (3 * t + 1)) (wt' := upd (upd wt (kl_W K) (nI t)) (kl_W K + 1) (nI (PN (3 * t + 1)))) (wd' := upd (upd (upd wd (kl_W K) 0) (kl_W K) 2) (kl_W K + 1) 0) (wa' := upd (upd wa (kl_Q KN K) (nI (1024 * kl_A K + 8 * t + 2))) (kl_Q KN K + 1) (nI (1024 * kl_A K + 8 * PN (3 * t + 1) + 0))) (yh' := upd (upd yh (kl_Q KN K) (nI (kl_Y KN K))) (kl_Q KN K + 1) (nI (kl_Y KN K))) (rl_turn r (by omega)) ⟨e1, e2⟩ ⟨by omega, kl_dn v1 (by omega) (by omega) (by omega) (Or.inl (by omega))⟩ (by omega) (by omega) (fun i hi => ⟨by rw [pk_un (by omega), pk_un (by omega)], by rw [pk_un (by omega), pk_un (by omega), pk_un (by omega)]⟩) (fun i hi => ⟨by rw [pk_un (by omega), pk_un (by omega)], by rw [pk_un (by omega), pk_un (by omega)]⟩) (by rw [pk_un (by omega), pk_us]) (by rw [pk_un (by omega), pk_us]; rfl) pk_us pk_us (fun _ => by rw [pk_un (by omega), pk_us]) (by rw [show kl_q (KN t) 2 = 1 from if_neg (by omega), pk_us]) (fun j hj => by
          unfold kl_ny at hj
          rw [if_pos (Or.inl hk)] at hj
          omega) (Nat.le_refl _)
        rw [show kl_X KN ((true, t, 2) :: K) = kl_X KN K from (show kl_X KN K + kl_nx (KN t) 2 = kl_X KN K by rw [show kl_nx (KN t) 2 = 0 from if_pos hk, Nat.add_zero]), show kl_Y KN ((true, t, 2) :: K) = kl_Y KN K from (show kl_Y KN K + kl_ny (KN t) 2 = kl_Y KN K by rw [show kl_ny (KN t) 2 = 0 from if_pos (Or.inl hk), Nat.add_zero]), show kl_Q KN ((true, t, 2) :: K) = kl_Q KN K + 1 from (show kl_Q KN K + kl_q (KN t) 2 = kl_Q KN K + 1 by rw [show kl_q (KN t) 2 = 1 from if_neg (by omega)])] at C
        exact nx_U r ⟨⟨e1, e2⟩, e3, e4, e5⟩ (by rw [hk]; decide) (by omega) (fun P hP => ax_fin_21 P (by omega) Z.2.2 e3 v3 (ax_loop_f P (by omega) (by omega) (by omega) Z.2.2 w2 h2 h0 p1 hP)) (fun P hP => ay_step_2 (s := 1) _ (by omega) (by omega) Z.2.2 (by omega) (by omega) e5 v2 (by decide) (by decide) (ay_t_26 P Z.2.2 v2 (ay_lp_f P Z.2.2 (by omega) (by omega) (by omega) p1 h2' (by rw [e0]; exact h0) hP))) (by omega) C
  · have h2' : ¬ vb_T (vl (kl_Y KN K)) = 2 := by rw [← vB_T hv]; exact h2
    exact nx_UF r ⟨⟨e1, e2⟩, e3, e4, e5⟩ (by rw [hk]; decide) (by omega) (fun P hP => ax_fin_21 P (by omega) Z.2.2 e3 v3 (ax_loop_s P (by omega) (by omega) w2 h2 hP)) (fun P hP => ay_step_2 (s := 1) _ (by omega) (by omega) Z.2.2 (by omega) (by omega) e5 v2 (by decide) (by decide) (ay_t_26 P Z.2.2 v2 (ay_lp_s P (by omega) h2' hP))) (by omega) (fr_n r (Or.inl rfl))
theorem op_26b (r : (rl_R NC NT N A T Pc D ob K cp cf mt op tk tp fp kd KN PN SZ oc of bt ba sl ac af fa fw fv wt wd wv mc yoc yof ybt ybp sv vr ow ed wa yh vl)) (E : en_F NT K KN SZ t 2 wt wd wa) (hk : KN t = 26) (hm : 802 * (200 - T) + (kl_C KN PN SZ K + pg_co KN PN SZ t 2) + 1 ≤ μ) : nx_S NC NT ns mn cp cf mt op tk tp fp sk kd py KN PN SZ μ (nI NC, nI NT, ns, mn, nI N, nI A, nI (kl_F K), nI (kl_W K + 1), nI (kl_X KN K + 1), -1, rs, nI Pc, nI T, nI D, cp, cf, mt, op, tk, tp, fp, sk, oc, of, bt, ba, rd, sl, ac, af, fa, fw, fv, wt, wd, wv, pr, mc) (nI NC, nI NT, ns, mn, nI (cu_O ob N), nI (N - cu_O ob N), nI A, nI (kl_Q KN K + 1), nI (kl_Y KN K + 1), nI (kl_F K), nI D, nI T, nI Pc, -4, cp, cf, mt, kd, tk, tp, sk, yoc, yof, ybt, ybp, sv, vr, ow, ed, wa, yh, vl, pe_P pr py Pc, mo, mb) := by
  obtain ⟨⟨n1, n2, n3, n4, n5⟩, ⟨n6, n7, n8, n9, n10, n11⟩, ⟨n12, n13, n14, n15, n16⟩, b, nb1, nb2⟩ := rl_n r
  obtain ⟨⟨e1, e2⟩, e3, e4, e5⟩ := E
  have Z := rl_sz r e1
  obtain ⟨v1, v2, v3, v4, v5, v6, v7⟩ := rl_tm r e1
  rw [hk] at v2 v3 v4 v5 v6 Z
  obtain ⟨p1, p2⟩ := v6 0 (by omega)
  have c : pg_co KN PN SZ t 1 + 4 * SZ (PN (3 * t + 0)) + 1 ≤ pg_co KN PN SZ t 0 ∧ SZ (PN (3 * t + 0)) + 1 ≤ SZ t := pg_cs r e1 (d := 0) (by rw [hk]; omega) (by omega)
  rw [pg_c0] at c
  have co2 : pg_co KN PN SZ t 2 = 4 * SZ t + 1 := if_pos ⟨hk, rfl⟩
  have C := cf_ps (μ := 802 * (200 - T) + (kl_C KN PN SZ K + pg_co KN PN SZ t 1) + 4 * SZ (PN (3 * t + 0))) (py := py) (ns := ns) (mn := mn) (sk := sk) (rs := rs) (rd := rd) (pr := pr) (mo := mo) (mb := mb) (d := 1) (p := PN (3 * t + 0)) (wt' := upd (upd wt (kl_W K) (nI t)) (kl_W K + 1) (nI (PN (3 * t + 0)))) (wd' := upd (upd (upd wd (kl_W K) 0) (kl_W K) (nI 1)) (kl_W K + 1) 0) (wa' := upd (upd wa (kl_Q KN K) (nI (1024 * kl_A K + 8 * t + 1))) (kl_Q KN K + 1) (nI (1024 * kl_A K + 8 * PN (3 * t + 0) + 0))) (yh' := upd (upd yh (kl_Q KN K) (nI (kl_Y KN K))) (kl_Q KN K + 1) (nI (kl_Y KN K))) r ⟨e1, e2⟩ ⟨by omega, kl_dn v1 (by omega) (by omega) (by omega) (Or.inl (by omega))⟩ (by omega) (by omega) (fun i hi => ⟨by rw [pk_un (by omega), pk_un (by omega)], by rw [pk_un (by omega), pk_un (by omega), pk_un (by omega)]⟩) (fun i hi => ⟨by rw [pk_un (by omega), pk_un (by omega)], by rw [pk_un (by omega), pk_un (by omega)]⟩) (by rw [pk_un (by omega), pk_us]) (by rw [pk_un (by omega), pk_us]) pk_us pk_us (fun _ => by rw [pk_un (by omega), pk_us]) (by rw [show kl_q (KN t) 1 = 1 from if_neg (by omega), pk_us]) (fun j hj => by
      unfold kl_ny at hj
      rw [if_pos (Or.inl hk)] at hj
      omega) (Nat.le_refl _)
  rw [show kl_X KN ((true, t, 1) :: K) = kl_X KN K from (show kl_X KN K + kl_nx (KN t) 1 = kl_X KN K by rw [show kl_nx (KN t) 1 = 0 from if_pos hk, Nat.add_zero]), show kl_Y KN ((true, t, 1) :: K) = kl_Y KN K from (show kl_Y KN K + kl_ny (KN t) 1 = kl_Y KN K by rw [show kl_ny (KN t) 1 = 0 from if_pos (Or.inl hk), Nat.add_zero]), show kl_Q KN ((true, t, 1) :: K) = kl_Q KN K + 1 from (show kl_Q KN K + kl_q (KN t) 1 = kl_Q KN K + 1 by rw [show kl_q (KN t) 1 = 1 from if_neg (by omega)])] at C
  exact nx_2 (u0 := (nI NC, nI NT, ns, mn, nI N, nI A, nI (kl_F K), nI (kl_W K + 1), nI (kl_X KN K), -1, rs, nI Pc, nI T, nI D, cp, cf, mt, op, tk, tp, fp, sk, oc, of, bt, ba, rd, sl, ac, af, fa, fw, fv, upd wt (kl_W K) (nI t), upd wd (kl_W K) 0, wv, pr, mc)) (fun P hP => xs_fin P (by omega) (by omega) Z.2.2 nb1 nb2 e3 e4 v4 (by decide) (by omega) (ax_fin_21 P (by omega) Z.2.2 e3 v3 (ax_loop_b P (by omega) (by omega) e4 hP))) (fun P hP => xs_nxt (m := 1) (d := 0) P (by omega) (by omega) Z.2.2 nb1 nb2 pk_us pk_us v4 (by omega) (by omega) p1 hP) (by omega) (fun P hP => ay_step_2 (s := 2) _ (by omega) (by omega) Z.2.2 (by omega) (by omega) e5 v2 (by decide) (by decide) (ay_t_26 P Z.2.2 v2 (ay_lp_b P Z.2.2 (by omega) p1 hP))) (by omega) C
/-! choose -/
theorem op_30 (r : (rl_R NC NT N A T Pc D ob K cp cf mt op tk tp fp kd KN PN SZ oc of bt ba sl ac af fa fw fv wt wd wv mc yoc yof ybt ybp sv vr ow ed wa yh vl)) (E : en_F NT K KN SZ t 1 wt wd wa) (hk : KN t = 30) (hv : vb_R ob N (wv (kl_X KN K)) (vl (kl_Y KN K))) (hm : 802 * (200 - T) + (kl_C KN PN SZ K + pg_co KN PN SZ t 1) + 1 ≤ μ) : nx_S NC NT ns mn cp cf mt op tk tp fp sk kd py KN PN SZ μ (nI NC, nI NT, ns, mn, nI N, nI A, nI (kl_F K), nI (kl_W K + 1), nI (kl_X KN K + 1), -1, rs, nI Pc, nI T, nI D, cp, cf, mt, op, tk, tp, fp, sk, oc, of, bt, ba, rd, sl, ac, af, fa, fw, fv, wt, wd, wv, pr, mc) (nI NC, nI NT, ns, mn, nI (cu_O ob N), nI (N - cu_O ob N), nI A, nI (kl_Q KN K + 1), nI (kl_Y KN K + 1), nI (kl_F K), nI D, nI T, nI Pc, -4, cp, cf, mt, kd, tk, tp, sk, yoc, yof, ybt, ybp, sv, vr, ow, ed, wa, yh, vl, pe_P pr py Pc, mo, mb) := by
  obtain ⟨⟨n1, n2, n3, n4, n5⟩, ⟨n6, n7, n8, n9, n10, n11⟩, ⟨n12, n13, n14, n15, n16⟩, b, nb1, nb2⟩ := rl_n r
  obtain ⟨⟨e1, e2⟩, e3, e4, e5⟩ := E
  have Z := rl_sz r e1
  obtain ⟨v1, v2, v3, v4, v5, v6, v7⟩ := rl_tm r e1
  rw [hk] at v2 v3 v4 v5 v6 Z
  have c1 : 1 ≤ pg_co KN PN SZ t 1 := pg_c1 r e1 (by rw [hk]; omega)
  have cd : ∀ x : Int64, ∃ d, (x.toInt32 = 0 ∧ d = 2) ∨ (¬ x.toInt32 = 0 ∧ d = 1) := fun x => by
    by_cases z : x.toInt32 = 0
    · exact ⟨2, Or.inl ⟨z, rfl⟩⟩
    · exact ⟨1, Or.inr ⟨z, rfl⟩⟩
  obtain ⟨d, hd⟩ := cd (vl (kl_Y KN K))
  have hd3 : d = 1 ∨ d = 2 := by omega
  obtain ⟨p1, p2⟩ := v6 d (by omega)
  by_cases h2 : vb_T (wv (kl_X KN K)) = 2
  · have h2' : vb_T (vl (kl_Y KN K)) = 2 := by rw [← vB_T hv]; exact h2
    have e0 := (vB_2 hv h2).1
    have hd' : ((wv (kl_X KN K)).toInt32 = 0 ∧ d = 2) ∨ (¬ (wv (kl_X KN K)).toInt32 = 0 ∧ d = 1) := by rw [← e0]; exact hd
    have szs : SZ (PN (3 * t + d)) + SZ (PN (3 * t + 0)) + 2 ≤ SZ t := by
      have q : pg_sm SZ PN t 3 = 0 + SZ (PN (3 * t + 0)) + SZ (PN (3 * t + 1)) + SZ (PN (3 * t + 2)) := rfl
      have z := v7.1
      rw [hk] at z
      have z' : pg_sm SZ PN t 3 + 1 ≤ SZ t := z
      have a1 := (pg_sz r.1 (t := PN (3 * t + 1)) (by have := (v6 1 (by omega)).2; omega)).1
      have a2 := (pg_sz r.1 (t := PN (3 * t + 2)) (by have := (v6 2 (by omega)).2; omega)).1
      rcases hd3 with rfl | rfl <;> omega
    have co1 : pg_co KN PN SZ t 1 = 4 * SZ t - 4 * SZ (PN (3 * t + 0)) - 1 := by
      rw [pg_cn PN SZ (by omega)]
      show 4 * SZ t - 4 * (0 + SZ (PN (3 * t + 0))) - 1 = _
      rw [Nat.zero_add]
    exact nx_U r ⟨⟨e1, e2⟩, e3, e4, e5⟩ (by rw [hk]; decide) (by omega) (fun P hP => ax_fin_23 P (by omega) Z.2.2 e3 v3 (ax_choose_f P (by omega) (by omega) Z.2.2 hd' h2 p1 hP)) (fun P hP => ay_step_3 (s := 1) _ (by omega) (by omega) Z.2.2 (by omega) (by omega) e5 v2 (by decide) (by decide) (ay_h_f P Z.2.2 v2 (by omega) (by omega) hd h2' p1 hP)) (by omega) (cf_Ei (μ := 802 * (200 - T) + kl_C KN PN SZ K + 4 * SZ (PN (3 * t + d))) (rl_cg r (fun i hi => ⟨pk_un (by omega), pk_un (by omega)⟩) (fun _ _ => ⟨rfl, rfl, rfl⟩) (fun _ _ => rfl) (fun i hi => ⟨pk_un (by omega), pk_un (by omega)⟩) (fun _ _ => rfl)) ⟨by omega, by omega⟩ pk_us pk_us pk_us (Nat.le_refl _))
  · have h2' : ¬ vb_T (vl (kl_Y KN K)) = 2 := by rw [← vB_T hv]; exact h2
    exact nx_UF r ⟨⟨e1, e2⟩, e3, e4, e5⟩ (by rw [hk]; decide) (by omega) (fun P hP => ax_fin_23 P (by omega) Z.2.2 e3 v3 (ax_choose_s P (by omega) h2 hP)) (fun P hP => ay_step_3 (s := 1) _ (by omega) (by omega) Z.2.2 (by omega) (by omega) e5 v2 (by decide) (by decide) (ay_h_s P Z.2.2 v2 (by omega) (by omega) hd h2' p1 hP)) (by omega) (fr_n r (Or.inl rfl))
end
end
section
section
variable {nt na : Nat} {R : Int64 → Int64 → Prop} {KN SZ : Nat → Nat} {fa fw fv wt wd : Nat → Int32} {wv : Nat → Int64} {wa hs : Nat → Int32} {vl : Nat → Int64}
theorem kl_L0 {b : Nat} (hb : na ≤ b) : ∀ {K : List (Bool × Nat × Nat)}, kl_S nt na R KN SZ fa fw fv wt wd wv wa hs vl K → kl_L b K = 0
  | [], _ => rfl
  | (true, _, _) :: K, S => kl_L0 hb (K := K) S.2.2.2.2.2
  | (false, a, m) :: K, S => by
    have h := S.1.1
    show (if a = b ∧ m = 1 then kl_F K + 1 else kl_L b K) = 0
    rw [if_neg (by omega)]
    exact kl_L0 hb S.2.2.2.2.2.2
end
theorem kl_Lf (a : Nat) (K : List (Bool × Nat × Nat)) : kl_L a ((false, a, 1) :: K) = kl_F K + 1 := if_pos ⟨rfl, rfl⟩
theorem kl_Ln {a b m : Nat} (h : a ≠ b ∨ m ≠ 1) (K : List (Bool × Nat × Nat)) : kl_L b ((false, a, m) :: K) = kl_L b K := if_neg (by omega)
theorem kl_ae {K K' : List (Bool × Nat × Nat)} {a : Nat} (h : kl_L a K = kl_L a K') : kl_ax K a = kl_ax K' a ∧ kl_ay K a = kl_ay K' a := by
  unfold kl_ax kl_ay
  rw [h]
  exact ⟨rfl, rfl⟩
theorem kl_a0 {K : List (Bool × Nat × Nat)} {a : Nat} (h0 : 1 ≤ a) (h : kl_L a K = 0) : kl_ax K a = -1 ∧ kl_ay K a = 1 := by
  unfold kl_ax kl_ay
  rw [h]
  exact ⟨by rw [if_neg (by omega)]; exact if_pos rfl, by rw [if_neg (by omega)]; exact if_pos rfl⟩
theorem kl_a1 {K : List (Bool × Nat × Nat)} {a g : Nat} (h0 : 1 ≤ a) (h : kl_L a K = g + 1) : kl_ax K a = nI (g + 1) ∧ kl_ay K a = 0 := by
  unfold kl_ax kl_ay
  rw [h]
  exact ⟨by rw [if_neg (by omega)]; exact if_neg (by omega), by rw [if_neg (by omega)]; exact if_neg (by omega)⟩
theorem kl_az {K : List (Bool × Nat × Nat)} {a : Nat} (h0 : a = 0) : kl_ax K a = 0 ∧ kl_ay K a = 0 := ⟨if_pos h0, if_pos h0⟩
section
variable {nc nt ns mn n na f ws vs en pc tc dc : Int32} {rs : Int64} {cp cf mt op tk tp fp sk oc bt ba rd ac af fa fw fv wt wd pr mc : Nat → Int32} {of sl wv : Nat → Int64}
theorem lk_s50_g (post : SX → Prop) {s k : Int32} {x : Int64} {o r g : Nat} (hg : g = 20) (ho : o < 6) (hr : r < 200) (hp : post (nc, nt, ns, mn, n, na, nI g, ws, vs, 3, rs, pc, nI (r + 1), dc, cp, cf, mt, op, tk, tp, fp, sk, oc, of, bt, ba, rd, sl, ac, af, fa, fw, fv, wt, wd, wv, pr, mc)) : wX_finishSend_50 post s k x (nI o) nc nt ns mn n na (nI g) ws vs en rs pc (nI r) dc cp cf mt op tk tp fp sk oc of bt ba rd sl ac af fa fw fv wt wd wv pr mc := by
  subst hg
  exact lk_s50_d post ho hr hp
theorem lk_s35_g (post : SX → Prop) {s : Int32} {o r g : Nat} (hg : g = 20) (ho : o < 6) (hr : r < 200) (hp : post (nc, nt, ns, mn, n, na, nI g, ws, vs, 3, rs, pc, nI (r + 1), dc, cp, cf, mt, op, tk, tp, fp, sk, oc, of, bt, ba, rd, sl, ac, af, fa, fw, fv, wt, wd, wv, pr, mc)) : wX_finishSuper_35 post s (nI o) nc nt ns mn n na (nI g) ws vs en rs pc (nI r) dc cp cf mt op tk tp fp sk oc of bt ba rd sl ac af fa fw fv wt wd wv pr mc := by
  subst hg
  exact lk_s35_d post ho hr hp
theorem ax_call_g (post : SX → Prop) {r g : Nat} {x k b t : Int32} {z : Int64} (hg : g = 20) (hr : r < 200) (hp : post (nc, nt, ns, mn, n, na, nI g, ws, vs, 3, rs, pc, nI (r + 1), dc, cp, cf, mt, op, tk, tp, fp, sk, oc, of, bt, ba, rd, sl, ac, af, fa, fw, fv, wt, wd, wv, pr, mc)) : wX_finishCall_73 post x z b t k x x nc nt ns mn n na (nI g) ws vs en rs pc (nI r) dc cp cf mt op tk tp fp sk oc of bt ba rd sl ac af fa fw fv wt wd wv pr mc := by
  subst hg
  exact ax_call_d post hr hp
end
section
variable {yc yt ys ym no nb ya yw yv yu yo yk yp ye : Int32} {ycp ycf ymt kd ytk ytp ysk yoc ybt ybp ow ed wa yh ypr mo mb : Nat → Int32} {yof sv vr vl : Nat → Int64}
theorem ay_enter_g (post : SY → Prop) {g : Nat} {m t a : Int32} (hg : g = 20) (hp : post (yc, yt, ys, ym, no, nb, ya, yw, yv, nI g, yo, yk, yp, 3, ycp, ycf, ymt, kd, ytk, ytp, ysk, yoc, yof, ybt, ybp, sv, vr, ow, ed, wa, yh, vl, ypr, mo, mb)) : wpY_enter post (yc, yt, ys, ym, no, nb, ya, yw, yv, nI g, yo, yk, yp, ye, ycp, ycf, ymt, kd, ytk, ytp, ysk, yoc, yof, ybt, ybp, sv, vr, ow, ed, wa, yh, vl, ypr, mo, mb) m t a := by
  subst hg
  exact ay_enter_n post hp
theorem ay_a35_g (post : SY → Prop) {a r o s tm args hA h' g : Nat} {rf : Int32} {self : Int64} (hg : g = 20) (hk : r < 200) (ha : a < 202) (ho : o < 6) (hs : s < 6) (hA' : hA + args ≤ 2200) (hr : (rf = 0 ∧ h' = hA) ∨ (¬ rf = 0 ∧ h' + 1 = hA)) (hm : ymt (6 * o + s) = nI tm) (hp : post (yc, yt, ys, ym, no, nb, nI (a + 1), yw, nI h', nI g, yo, nI (r + 1), yp, 3, ycp, ycf, ymt, kd, ytk, ytp, ysk, yoc, yof, ybt, ybp, vp_updL sv a self, up_n vr (6 * a) (ax_ga args vl hA) 6, upd ow a (nI o), upd ed a 0, wa, yh, vl, ypr, mo, mb)) : wY_activate_35 post (nI s) self (nI args) rf (nI o) yc yt ys ym no nb (nI a) yw (nI (hA + args)) (nI g) yo (nI r) yp ye ycp ycf ymt kd ytk ytp ysk yoc yof ybt ybp sv vr ow ed wa yh vl ypr mo mb := by
  subst hg
  exact ay_a35_d post hk ha ho hs hA' hr hm hp
end
section
variable {NC NT : Nat} {ns mn : Int32} {cp cf mt op tk tp fp sk kd py : Nat → Int32} {KN PN SZ : Nat → Nat}
variable {N A T Pc D : Nat} {ob : Nat → Bool} {K : List (Bool × Nat × Nat)} {rs : Int64} {oc bt ba rd ac af fa fw fv wt wd pr mc : Nat → Int32} {of sl wv : Nat → Int64} {yoc ybt ybp ow ed wa yh mo mb : Nat → Int32} {yof sv vr vl : Nat → Int64}
variable {μ t : Nat}
/-! a frame ends -/
theorem op_fr {a m : Nat} (r : (rl_R NC NT N A T Pc D ob ((false, a, m) :: K) cp cf mt op tk tp fp kd KN PN SZ oc of bt ba sl ac af fa fw fv wt wd wv mc yoc yof ybt ybp sv vr ow ed wa yh vl)) (hv : vb_R ob N (wv (kl_X KN K)) (vl (kl_Y KN K))) (hm : 802 * (200 - T) + kl_C KN PN SZ K + 1 < μ) : nx_S NC NT ns mn cp cf mt op tk tp fp sk kd py KN PN SZ μ (nI NC, nI NT, ns, mn, nI N, nI A, nI (kl_F ((false, a, m) :: K)), nI (kl_W ((false, a, m) :: K)), nI (kl_X KN ((false, a, m) :: K) + 1), -1, rs, nI Pc, nI T, nI D, cp, cf, mt, op, tk, tp, fp, sk, oc, of, bt, ba, rd, sl, ac, af, fa, fw, fv, wt, wd, wv, pr, mc) (nI NC, nI NT, ns, mn, nI (cu_O ob N), nI (N - cu_O ob N), nI A, nI (kl_Q KN ((false, a, m) :: K)), nI (kl_Y KN ((false, a, m) :: K) + 1), nI (kl_F ((false, a, m) :: K)), nI D, nI T, nI Pc, -4, cp, cf, mt, kd, tk, tp, sk, yoc, yof, ybt, ybp, sv, vr, ow, ed, wa, yh, vl, pe_P pr py Pc, mo, mb) := by
  obtain ⟨⟨n1, n2, n3, n4, n5⟩, ⟨n6, n7, n8, n9, n10, n11⟩, ⟨n12, n13, n14, n15, n16⟩, b, nb1, nb2⟩ := rl_n r
  obtain ⟨P, H, ⟨⟨⟨s1, s2, s3, s4, s5⟩, s6, s7, s8, s9, s10, S⟩, F0, AF⟩, B⟩ := r
  have b1 := kl_Qb KN K
  have b2 : kl_W K + kl_X KN K + 1 ≤ 2100 := n2
  have b3 : kl_F K + 1 ≤ D := n16
  obtain ⟨f1, f2⟩ := AF a s1
  have e01 : ed a = 0 ∨ ed a = 1 := by
    rw [f2]
    unfold kl_ay
    split
    · exact Or.inl rfl
    · split
      · exact Or.inr rfl
      · exact Or.inl rfl
  by_cases hm1 : m = 1
  · subst hm1
    obtain ⟨a1, l0⟩ := s3 rfl
    have g1 : af a = nI (kl_F K + 1) := by
      rw [f1]
      exact (kl_a1 a1 (kl_Lf a K)).1
    refine nx_1 (u1 := (nI NC, nI NT, ns, mn, nI N, nI A, nI (kl_F K), nI (kl_W K), nI (kl_X KN K + 1), -1, rs, nI Pc, nI T, nI D, cp, cf, mt, op, tk, tp, fp, sk, oc, of, bt, ba, rd, sl, ac, upd af a (-1), fa, fw, fv, wt, wd, wv, pr, mc)) (v1 := (nI NC, nI NT, ns, mn, nI (cu_O ob N), nI (N - cu_O ob N), nI A, nI (kl_Q KN K), nI (kl_Y KN K + 1), nI (kl_F K), nI D, nI T, nI Pc, -4, cp, cf, mt, kd, tk, tp, sk, yoc, yof, ybt, ybp, sv, vr, ow, upd ed a 1, wa, yh, vl, pe_P pr py Pc, mo, mb)) (fun P hP => xs_lv P (by omega) s7 (ax_leave_m P s5 (by omega) s6 g1 hP)) (by omega) (fun P hP => ay_step_M P (by omega) (by omega) s2 s9 (Or.inl ⟨rfl, rfl⟩) e01 hP) hm (cf_Vi ⟨P, H, ⟨S, F0, ?_⟩, B.1, ⟨B.2.1.1, by omega, B.2.1.2.2⟩, B.2.2⟩ hv (Nat.le_refl _))
    intro a' ha'
    by_cases e : a' = a
    · subst e
      rw [pk_us, pk_us]
      have z := kl_a0 a1 l0
      exact ⟨z.1.symm, z.2.symm⟩
    · rw [pk_un e, pk_un e]
      have z := AF a' ha'
      have q := kl_ae (kl_Ln (a := a) (b := a') (m := 1) (Or.inl (fun z => e z.symm)) K)
      exact ⟨z.1.trans q.1, z.2.trans q.2⟩
  · have hm0 : m = 0 := by omega
    subst hm0
    have Lb : ∀ a', kl_L a' ((false, a, 0) :: K) = kl_L a' K := fun a' => kl_Ln (Or.inr (by omega)) K
    have g1 : ¬ af a = nI (kl_F K + 1) := by
      rw [f1]
      unfold kl_ax
      rw [Lb]
      have lb := kl_Lb a K
      split
      · exact fun z => by rw [show (0 : Int32) = nI 0 from rfl, nI_eq (by omega) (by omega)] at z; omega
      · split
        · exact fun z => ax_nIm1 (n := kl_F K + 1) (by omega) z.symm
        · exact fun z => by rw [nI_eq (by omega) (by omega)] at z; omega
    refine nx_1 (u1 := (nI NC, nI NT, ns, mn, nI N, nI A, nI (kl_F K), nI (kl_W K), nI (kl_X KN K + 1), -1, rs, nI Pc, nI T, nI D, cp, cf, mt, op, tk, tp, fp, sk, oc, of, bt, ba, rd, sl, ac, af, fa, fw, fv, wt, wd, wv, pr, mc)) (v1 := (nI NC, nI NT, ns, mn, nI (cu_O ob N), nI (N - cu_O ob N), nI A, nI (kl_Q KN K), nI (kl_Y KN K + 1), nI (kl_F K), nI D, nI T, nI Pc, -4, cp, cf, mt, kd, tk, tp, sk, yoc, yof, ybt, ybp, sv, vr, ow, upd ed a (ed a), wa, yh, vl, pe_P pr py Pc, mo, mb)) (fun P hP => xs_lv P (by omega) s7 (ax_leave_b P s5 (by omega) s6 g1 hP)) (by omega) (fun P hP => ay_step_M P (by omega) (by omega) s2 s9 (Or.inr ⟨rfl, rfl⟩) e01 hP) hm (cf_Vi ⟨P, H, ⟨S, F0, ?_⟩, B.1, ⟨B.2.1.1, by omega, B.2.1.2.2⟩, B.2.2⟩ hv (Nat.le_refl _))
    intro a' ha'
    have z := AF a' ha'
    have q := kl_ae (Lb a')
    by_cases e : a' = a
    · subst e
      rw [pk_us]
      exact ⟨z.1.trans q.1, z.2.trans q.2⟩
    · rw [pk_un e]
      exact ⟨z.1.trans q.1, z.2.trans q.2⟩
theorem op_end (r : (rl_R NC NT N A T Pc D ob ([]) cp cf mt op tk tp fp kd KN PN SZ oc of bt ba sl ac af fa fw fv wt wd wv mc yoc yof ybt ybp sv vr ow ed wa yh vl)) (hv : vb_R ob N (wv 0) (vl 0)) (hm : 1 ≤ μ) : nx_S NC NT ns mn cp cf mt op tk tp fp sk kd py KN PN SZ μ (nI NC, nI NT, ns, mn, nI N, nI A, nI (kl_F ([])), nI (kl_W ([])), nI (kl_X KN ([]) + 1), -1, rs, nI Pc, nI T, nI D, cp, cf, mt, op, tk, tp, fp, sk, oc, of, bt, ba, rd, sl, ac, af, fa, fw, fv, wt, wd, wv, pr, mc) (nI NC, nI NT, ns, mn, nI (cu_O ob N), nI (N - cu_O ob N), nI A, nI (kl_Q KN ([])), nI (kl_Y KN ([]) + 1), nI (kl_F ([])), nI D, nI T, nI Pc, -4, cp, cf, mt, kd, tk, tp, sk, yoc, yof, ybt, ybp, sv, vr, ow, ed, wa, yh, vl, pe_P pr py Pc, mo, mb) := by
  obtain ⟨⟨n1, n2, n3, n4, n5⟩, ⟨n6, n7, n8, n9, n10, n11⟩, ⟨n12, n13, n14, n15, n16⟩, b, nb1, nb2⟩ := rl_n r
  obtain ⟨P, H, ⟨S, F0, AF⟩, B⟩ := r
  refine Or.inr ⟨hm, (nI NC, nI NT, ns, mn, nI N, nI A, nI 0, nI 0, nI 0, 0, wv 0, nI Pc, nI T, nI D, cp, cf, mt, op, tk, tp, fp, sk, oc, of, bt, ba, rd, sl, ac, af, fa, fw, fv, wt, wd, wv, pr, mc), (nI NC, nI NT, ns, mn, nI (cu_O ob N), nI (N - cu_O ob N), nI A, nI 0, nI (kl_Y KN ([]) + 1), nI (kl_F ([])), nI D, nI T, nI Pc, 0, cp, cf, mt, kd, tk, tp, sk, yoc, yof, ybt, ybp, sv, vr, ow, ed, wa, yh, vl, pe_P pr py Pc, mo, mb), fun P hP => xs_lv (g := 0) (w := 0) P (by omega) F0.2.1 (ax_leave_0 (q := 0) P (by omega) hP), fun Q hQ => ⟨1, yl_e2 hQ⟩, ?_⟩
  exact ⟨N, A, T, Pc, D, ob, nI A, nI 0, nI 0, nI 0, 0, nI A, nI 0, _, _, wv 0, oc, bt, ba, rd, ac, af, fa, fw, fv, wt, wd, pr, mc, of, sl, wv, yoc, ybt, ybp, ow, ed, wa, yh, mo, mb, yof, sv, vr, vl, rfl, rfl, Or.inl rfl, ⟨n9, n14⟩, B.2.2, fun _ => ⟨rfl, n8, H, hv⟩⟩
/-! a method is entered -/
theorem cf_act {tm o : Nat} {x y : Int64} {gx gy : Nat → Int64} (r : (rl_R NC NT N A T Pc D ob K cp cf mt op tk tp fp kd KN PN SZ oc of bt ba sl ac af fa fw fv wt wd wv mc yoc yof ybt ybp sv vr ow ed wa yh vl)) (hT : T < 200) (hF : kl_F K < 20) (ho : o < NC) (ht : tm < NT) (hr : kl_W K + kl_X KN K ≤ 100 * (kl_F K + 1)) (hs : vb_R ob N x y) (hg : ∀ j, j < 6 → vb_R ob N (gx j) (gy j)) (hm : 802 * (200 - (T + 1)) + (kl_C KN PN SZ K + 1) + 4 * SZ tm ≤ μ) : cf_V NC NT ns mn cp cf mt op tk tp fp sk kd py KN PN SZ μ (nI NC, nI NT, ns, mn, nI N, nI (A + 1), nI (kl_F ((false, A, 1) :: K)), nI (kl_W ((false, A, 1) :: K) + 1), nI (kl_X KN ((false, A, 1) :: K)), -1, rs, nI Pc, nI (T + 1), nI (ay_mx (kl_F K) D), cp, cf, mt, op, tk, tp, fp, sk, oc, of, bt, ba, rd, vp_updL (up_n sl (A * 7) gx 6) (A * 7 + 6) x, upd ac A (nI o), upd af A (nI (kl_F K + 1)), upd fa (kl_F K + 1) (nI A), upd fw (kl_F K + 1) (nI (kl_W K)), upd fv (kl_F K + 1) (nI (kl_X KN K)), upd wt (kl_W K) (nI tm), upd wd (kl_W K) 0, wv, pr, mc) (nI NC, nI NT, ns, mn, nI (cu_O ob N), nI (N - cu_O ob N), nI (A + 1), nI (kl_Q KN ((false, A, 1) :: K) + 1), nI (kl_Y KN ((false, A, 1) :: K)), nI (kl_F ((false, A, 1) :: K)), nI (ay_mx (kl_F K) D), nI (T + 1), nI Pc, -4, cp, cf, mt, kd, tk, tp, sk, yoc, yof, ybt, ybp, vp_updL sv A y, up_n vr (6 * A) gy 6, upd ow A (nI o), upd ed A 0, upd (upd wa (kl_Q KN K) (nI (1024 * A + 8 * 127 + 0))) (kl_Q KN K + 1) (nI (1024 * A + 8 * tm + 0)), upd (upd yh (kl_Q KN K) (nI (kl_Y KN K))) (kl_Q KN K + 1) (nI (kl_Y KN K)), vl, pe_P pr py Pc, mo, mb) ∨ cf_E NC NT ns mn cp cf mt op tk tp fp sk kd py KN PN SZ μ (nI NC, nI NT, ns, mn, nI N, nI (A + 1), nI (kl_F ((false, A, 1) :: K)), nI (kl_W ((false, A, 1) :: K) + 1), nI (kl_X KN ((false, A, 1) :: K)), -1, rs, nI Pc, nI (T + 1), nI (ay_mx (kl_F K) D), cp, cf, mt, op, tk, tp, fp, sk, oc, of, bt, ba, rd, vp_updL (up_n sl (A * 7) gx 6) (A * 7 + 6) x, upd ac A (nI o), upd af A (nI (kl_F K + 1)), upd fa (kl_F K + 1) (nI A), upd fw (kl_F K + 1) (nI (kl_W K)), upd fv (kl_F K + 1) (nI (kl_X KN K)), upd wt (kl_W K) (nI tm), upd wd (kl_W K) 0, wv, pr, mc) (nI NC, nI NT, ns, mn, nI (cu_O ob N), nI (N - cu_O ob N), nI (A + 1), nI (kl_Q KN ((false, A, 1) :: K) + 1), nI (kl_Y KN ((false, A, 1) :: K)), nI (kl_F ((false, A, 1) :: K)), nI (ay_mx (kl_F K) D), nI (T + 1), nI Pc, -4, cp, cf, mt, kd, tk, tp, sk, yoc, yof, ybt, ybp, vp_updL sv A y, up_n vr (6 * A) gy 6, upd ow A (nI o), upd ed A 0, upd (upd wa (kl_Q KN K) (nI (1024 * A + 8 * 127 + 0))) (kl_Q KN K + 1) (nI (1024 * A + 8 * tm + 0)), upd (upd yh (kl_Q KN K) (nI (kl_Y KN K))) (kl_Q KN K + 1) (nI (kl_Y KN K)), vl, pe_P pr py Pc, mo, mb) := by
  have z := rl_sz r ht
  obtain ⟨⟨n1, n2, n3, n4, n5⟩, ⟨n6, n7, n8, n9, n10, n11⟩, ⟨n12, n13, n14, n15, n16⟩, b, nb1, nb2⟩ := rl_n r
  obtain ⟨P, H, ⟨S, F0, AF⟩, B⟩ := r
  have mx : kl_F K + 1 ≤ ay_mx (kl_F K) D ∧ ay_mx (kl_F K) D ≤ 20 := by
    unfold ay_mx
    split <;> omega
  refine cf_Ei (K := (false, A, 1) :: K) (t := tm) (A := A + 1) (T := T + 1) (D := ay_mx (kl_F K) D) ⟨P, ⟨H.1, ?_, ?_⟩, ⟨⟨⟨by omega, by omega, fun _ => ⟨B.1.1, kl_L0 (Nat.le_refl _) S⟩, hr, hF⟩, pk_us, pk_us, pk_us, ?_, ?_, ?_⟩, ?_, ?_⟩, ⟨by omega, by omega, by omega⟩, ⟨n14, mx.1, mx.2⟩, B.2.2⟩ ⟨ht, ?_⟩ pk_us pk_us pk_us hm
  · intro t' h1 h2
    obtain ⟨tm', a', q1, q2, q3, q4⟩ := H.2.1 t' h1 h2
    exact ⟨tm', a', q1, q2, by omega, q4⟩
  · intro a' ha'
    by_cases e : a' = A
    · subst e
      refine ⟨?_, ?_, ?_, ?_⟩
      · rw [pk_uLs, pk_uLs]; exact hs
      · intro v hv
        rw [pk_uLn (by omega), up_in hv, up_in hv]; exact hg v hv
      · rw [pk_us, pk_us]
      · rw [pk_us]; exact Or.inr ⟨o, ho, rfl⟩
    · obtain ⟨h1, h2, h3, h4⟩ := H.2.2 a' (by omega)
      refine ⟨?_, ?_, ?_, ?_⟩
      · rw [pk_uLn (by omega), up_out (by omega), pk_uLn e]; exact h1
      · intro v hv
        rw [pk_uLn (by omega), up_out (by omega), up_out (by omega)]; exact h2 v hv
      · rw [pk_un e, pk_un e]; exact h3
      · rw [pk_un e]; exact h4
  · rw [pk_un (by omega), pk_us]
  · rw [pk_un (by omega), pk_us]
  · exact kl_cg (fun _ _ h => h) (by omega) (fun i hi => ⟨pk_un (by omega), pk_un (by omega)⟩) (fun i _ hi => ⟨pk_un (by omega), pk_un (by omega), pk_un (by omega)⟩) (fun _ _ => rfl) (fun i hi => ⟨by rw [pk_un (by omega), pk_un (by omega)], by rw [pk_un (by omega), pk_un (by omega)]⟩) (fun _ _ => rfl) S
  · exact ⟨by rw [pk_un (by omega)]; exact F0.1, by rw [pk_un (by omega)]; exact F0.2.1, by rw [pk_un (by omega)]; exact F0.2.2⟩
  · intro a' ha'
    by_cases e : a' = A
    · subst e
      rw [pk_us, pk_us]
      have q := kl_a1 B.1.1 (kl_Lf a' K)
      exact ⟨q.1.symm, q.2.symm⟩
    · rw [pk_un e, pk_un e]
      have z := AF a' (by omega)
      have q := kl_ae (kl_Ln (a := A) (b := a') (m := 1) (Or.inl (fun z => e z.symm)) K)
      exact ⟨z.1.trans q.1.symm, z.2.trans q.2.symm⟩
  · show kl_W K + kl_X KN K + SZ tm ≤ 100 * (kl_F K + 1 + 1)
    omega
theorem op_ga {s : Nat} {bx by_ : Nat} (h : ∀ j, j < s → vb_R ob N (wv (bx + j)) (vl (by_ + j))) : ∀ j, j < 6 → vb_R ob N (ax_ga s wv bx j) (ax_ga s vl by_ j) := by
  intro j hj
  unfold ax_ga
  by_cases z : j < s
  · rw [if_pos z, if_pos z]; exact h j z
  · rw [if_neg z, if_neg z]; exact Or.inl ⟨rfl, rfl⟩
theorem op_send {d s : Nat} (r : (rl_R NC NT N A T Pc D ob K cp cf mt op tk tp fp kd KN PN SZ oc of bt ba sl ac af fa fw fv wt wd wv mc yoc yof ybt ybp sv vr ow ed wa yh vl)) (E : en_F NT K KN SZ t d wt wd wa) (hd : d ≤ 3) (hf : pg_fp (KN t) ≤ d) (hs : s < 6) (hk : tk t = nI s) (ho : op t = 14) (hroom : s % 3 + 2 ≤ SZ t) (hY : ∀ P : SY → Prop, wpY_send P (nI NC, nI NT, ns, mn, nI (cu_O ob N), nI (N - cu_O ob N), nI A, nI (kl_Q KN K), nI (kl_Y KN K + 1 + s % 3), nI (kl_F K), nI D, nI T, nI Pc, -4, cp, cf, mt, kd, tk, tp, sk, yoc, yof, ybt, ybp, sv, vr, ow, ed, wa, yh, vl, pe_P pr py Pc, mo, mb) (nI s) (nI (s % 3)) → wpY_step P (nI NC, nI NT, ns, mn, nI (cu_O ob N), nI (N - cu_O ob N), nI A, nI (kl_Q KN K + 1), nI (kl_Y KN K + 1 + s % 3), nI (kl_F K), nI D, nI T, nI Pc, -4, cp, cf, mt, kd, tk, tp, sk, yoc, yof, ybt, ybp, sv, vr, ow, ed, wa, yh, vl, pe_P pr py Pc, mo, mb)) (hvs : ∀ j, j ≤ s % 3 → vb_R ob N (wv (kl_X KN K + j)) (vl (kl_Y KN K + j))) (hm : 802 * (200 - T) + kl_C KN PN SZ K + 1 < μ) : nx_S NC NT ns mn cp cf mt op tk tp fp sk kd py KN PN SZ μ (nI NC, nI NT, ns, mn, nI N, nI A, nI (kl_F K), nI (kl_W K + 1), nI (kl_X KN K + 1 + s % 3), -1, rs, nI Pc, nI T, nI D, cp, cf, mt, op, tk, tp, fp, sk, oc, of, bt, ba, rd, sl, ac, af, fa, fw, fv, wt, wd, wv, pr, mc) (nI NC, nI NT, ns, mn, nI (cu_O ob N), nI (N - cu_O ob N), nI A, nI (kl_Q KN K + 1), nI (kl_Y KN K + 1 + s % 3), nI (kl_F K), nI D, nI T, nI Pc, -4, cp, cf, mt, kd, tk, tp, sk, yoc, yof, ybt, ybp, sv, vr, ow, ed, wa, yh, vl, pe_P pr py Pc, mo, mb) := by
  obtain ⟨⟨n1, n2, n3, n4, n5⟩, ⟨n6, n7, n8, n9, n10, n11⟩, ⟨n12, n13, n14, n15, n16⟩, b, nb1, nb2⟩ := rl_n r
  have E' := E
  obtain ⟨⟨e1, e2⟩, e3, e4, e5⟩ := E
  have ht : t < 100 := by omega
  have hv := hvs 0 (by omega)
  rw [Nat.add_zero, Nat.add_zero] at hv
  by_cases h4 : vb_T (wv (kl_X KN K)) = 4
  · obtain ⟨o, ho1, h0, hx, hy⟩ := vB_4 hv h4
    obtain ⟨⟨c, hc, o1, o2⟩, _⟩ := r.2.1.1 o ho1 h0
    have g1 := cu_gt h0 ho1
    have g2 := cu_le ob N
    obtain ⟨h, hh, hX, hYY⟩ := lk_h (s := s) (args := nI (s % 3)) (rf := 1) (self := vb_pk 4 (nI (cu_g ob o))) (nc := nI NC) (nt := nI NT) (ns := ns) (mn := mn) (n := nI N) (na := nI A) (f := nI (kl_F K)) (ws := nI (kl_W K)) (vs := nI (kl_X KN K + 1 + s % 3)) (en := -1) (rs := rs) (pc := nI Pc) (tc := nI T) (dc := nI D) (op := op) (tk := tk) (tp := tp) (fp := fp) (sk := sk) (oc := oc) (of := of) (bt := bt) (ba := ba) (rd := rd) (sl := sl) (ac := ac) (af := af) (fa := fa) (fw := fw) (fv := fv) (wt := wt) (wd := wd) (wv := wv) (pr := pr) (mc := mc) (yc := nI NC) (yt := nI NT) (ys := ns) (ym := mn) (no := nI (cu_O ob N)) (nb := nI (N - cu_O ob N)) (ya := nI A) (yw := nI (kl_Q KN K)) (yv := nI (kl_Y KN K + 1 + s % 3)) (yu := nI (kl_F K)) (yo := nI D) (yk := nI T) (yp := nI Pc) (ye := -4) (ycf := cf) (kd := kd) (ytk := tk) (ytp := tp) (ysk := sk) (yoc := yoc) (yof := yof) (ybt := ybt) (ybp := ybp) (sv := sv) (vr := vr) (ow := ow) (ed := ed) (wa := wa) (yh := yh) (vl := vl) (ypr := pe_P pr py Pc) (mo := mo) (mb := mb) r.1.2.2.1 r.1.1 r.1.2.1 hs (c + 1) c 0 (by omega) hc (by omega)
    have fX : ∀ P : SX → Prop, wX_finishSend_50 P (nI s) (nI (s % 3 + 1)) (vb_pk 4 (nI o)) h (nI NC) (nI NT) ns mn (nI N) (nI A) (nI (kl_F K)) (nI (kl_W K)) (nI (kl_X KN K + 1 + s % 3)) (-1) rs (nI Pc) (nI T) (nI D) cp cf mt op tk tp fp sk oc of bt ba rd sl ac af fa fw fv wt wd wv pr mc → wpX_finish P (nI NC, nI NT, ns, mn, nI N, nI A, nI (kl_F K), nI (kl_W K + 1), nI (kl_X KN K + 1 + s % 3), -1, rs, nI Pc, nI T, nI D, cp, cf, mt, op, tk, tp, fp, sk, oc, of, bt, ba, rd, sl, ac, af, fa, fw, fv, wt, wd, wv, pr, mc) := fun P hP => ax_fin_14 P (by omega) ht e3 ho (by rw [hk]; exact lk_send_h P hs (by omega) hx (by omega) o1 (fun Q hQ => Exists.intro (c + 2) (hX Q (c + 2) (by omega) hQ)) hP)
    have fY : ∀ P : SY → Prop, wY_activate_35 P (nI s) (vb_pk 4 (nI (cu_g ob o))) (nI (s % 3)) 1 h (nI NC) (nI NT) ns mn (nI (cu_O ob N)) (nI (N - cu_O ob N)) (nI A) (nI (kl_Q KN K)) (nI (kl_Y KN K + 1 + s % 3)) (nI (kl_F K)) (nI D) (nI T) (nI Pc) (-4) cp cf mt kd tk tp sk yoc yof ybt ybp sv vr ow ed wa yh vl (pe_P pr py Pc) mo mb → wpY_step P (nI NC, nI NT, ns, mn, nI (cu_O ob N), nI (N - cu_O ob N), nI A, nI (kl_Q KN K + 1), nI (kl_Y KN K + 1 + s % 3), nI (kl_F K), nI D, nI T, nI Pc, -4, cp, cf, mt, kd, tk, tp, sk, yoc, yof, ybt, ybp, sv, vr, ow, ed, wa, yh, vl, pe_P pr py Pc, mo, mb) := fun P hP => hY P (lk_sendY_h P (by omega) hy (by omega) o2 (hYY P (c + 2) (by omega) hP))
    rcases hh with rfl | ⟨oc', tm, ho2, htm, rfl, hmt⟩
    · exact nx_UF r E' hf hd (fun P hP => fX P (lk_s50_s P hP)) (fun P hP => fY P (ay_a35_s P hP)) (by omega) (fr_n r (Or.inl rfl))
    · by_cases hT : T = 200
      · subst hT
        exact nx_UF r E' hf hd (fun P hP => fX P (lk_s50_t P (by omega) hP)) (fun P hP => fY P (ay_a35_t P (by omega) hP)) (by omega) (fr_n r (Or.inr (Or.inl rfl)))
      · by_cases hF : kl_F K = 20
        · exact nx_UF r E' hf hd (fun P hP => fX P (lk_s50_g P hF (by omega) (by omega) hP)) (fun P hP => fY P (ay_a35_g P hF (by omega) (by omega) (by omega) hs (by omega) (Or.inr ⟨by decide, rfl⟩) hmt hP)) (by omega) (fr_n r (Or.inr (Or.inr (Or.inl rfl))))
        · have z := rl_sz r htm
          exact nx_U r E' hf hd (fun P hP => fX P (lk_s50_f P (by omega) (by omega) (by omega) (ax_act P (fA := kl_X KN K + 1) (v := kl_X KN K) (by omega) (by omega) (by omega) (by omega) (by omega) hs (by omega) (by omega) hmt hP))) (fun P hP => fY P (ay_a35_f P (h' := kl_Y KN K) (by omega) (by omega) (by omega) (by omega) (by omega) (by omega) hs (by omega) (Or.inr ⟨by decide, rfl⟩) hmt hP)) (μ' := 802 * (200 - (T + 1)) + (kl_C KN PN SZ K + 1) + 4 * SZ tm) (by omega) (cf_act r (by omega) (by omega) ho2 htm (by omega) (Or.inr (Or.inr (Or.inr ⟨o, ho1, h0, rfl, rfl⟩))) (op_ga (fun j hj => by rw [Nat.add_assoc, Nat.add_assoc]; exact hvs (1 + j) (by omega))) (Nat.le_refl _))
  · have h4' : ¬ vb_T (vl (kl_Y KN K)) = 4 := by rw [← vB_T hv]; exact h4
    exact nx_UF r E' hf hd (fun P hP => ax_fin_14 P (by omega) ht e3 ho (by rw [hk]; exact lk_send_s P hs (by omega) h4 hP)) (fun P hP => hY P (lk_sendY_s P (by omega) h4' hP)) (by omega) (fr_n r (Or.inl rfl))
end
end
section
section
variable {NC NT : Nat} {ns mn : Int32} {cp cf mt op tk tp fp sk kd py : Nat → Int32} {KN PN SZ : Nat → Nat}
variable {N A T Pc D : Nat} {ob : Nat → Bool} {K : List (Bool × Nat × Nat)} {rs : Int64} {oc bt ba rd ac af fa fw fv wt wd pr mc : Nat → Int32} {of sl wv : Nat → Int64} {yoc ybt ybp ow ed wa yh mo mb : Nat → Int32} {yof sv vr vl : Nat → Int64}
variable {μ t : Nat}
theorem op_super {d s : Nat} (r : (rl_R NC NT N A T Pc D ob K cp cf mt op tk tp fp kd KN PN SZ oc of bt ba sl ac af fa fw fv wt wd wv mc yoc yof ybt ybp sv vr ow ed wa yh vl)) (E : en_F NT K KN SZ t d wt wd wa) (hd : d ≤ 3) (hf : pg_fp (KN t) ≤ d) (hs : s < 6) (hk : tk t = nI s) (ho : op t = 6) (hroom : s % 3 + 1 ≤ SZ t) (hY : ∀ P : SY → Prop, wpY_sendAbove P (nI NC, nI NT, ns, mn, nI (cu_O ob N), nI (N - cu_O ob N), nI A, nI (kl_Q KN K), nI (kl_Y KN K + s % 3), nI (kl_F K), nI D, nI T, nI Pc, -4, cp, cf, mt, kd, tk, tp, sk, yoc, yof, ybt, ybp, sv, vr, ow, ed, wa, yh, vl, pe_P pr py Pc, mo, mb) (nI s) (nI (s % 3)) (nI (kl_A K)) → wpY_step P (nI NC, nI NT, ns, mn, nI (cu_O ob N), nI (N - cu_O ob N), nI A, nI (kl_Q KN K + 1), nI (kl_Y KN K + s % 3), nI (kl_F K), nI D, nI T, nI Pc, -4, cp, cf, mt, kd, tk, tp, sk, yoc, yof, ybt, ybp, sv, vr, ow, ed, wa, yh, vl, pe_P pr py Pc, mo, mb)) (hvs : ∀ j, j < s % 3 → vb_R ob N (wv (kl_X KN K + j)) (vl (kl_Y KN K + j))) (hm : 802 * (200 - T) + kl_C KN PN SZ K + 1 < μ) : nx_S NC NT ns mn cp cf mt op tk tp fp sk kd py KN PN SZ μ (nI NC, nI NT, ns, mn, nI N, nI A, nI (kl_F K), nI (kl_W K + 1), nI (kl_X KN K + s % 3), -1, rs, nI Pc, nI T, nI D, cp, cf, mt, op, tk, tp, fp, sk, oc, of, bt, ba, rd, sl, ac, af, fa, fw, fv, wt, wd, wv, pr, mc) (nI NC, nI NT, ns, mn, nI (cu_O ob N), nI (N - cu_O ob N), nI A, nI (kl_Q KN K + 1), nI (kl_Y KN K + s % 3), nI (kl_F K), nI D, nI T, nI Pc, -4, cp, cf, mt, kd, tk, tp, sk, yoc, yof, ybt, ybp, sv, vr, ow, ed, wa, yh, vl, pe_P pr py Pc, mo, mb) := by
  obtain ⟨⟨n1, n2, n3, n4, n5⟩, ⟨n6, n7, n8, n9, n10, n11⟩, ⟨n12, n13, n14, n15, n16⟩, b, nb1, nb2⟩ := rl_n r
  have E' := E
  obtain ⟨⟨e1, e2⟩, e3, e4, e5⟩ := E
  have ht : t < 100 := by omega
  obtain ⟨hself, _, how, hac⟩ := r.2.1.2.2 _ n7
  rcases hac with hac | ⟨c, hc, hac⟩
  · exact nx_UF r E' hf hd (fun P hP => ax_fin_6 P (by omega) ht e3 ho (by rw [hk]; exact lk_sup_n P (by omega) (by omega) n6 hac hP)) (fun P hP => hY P (lk_supY_n P (by omega) (how.trans hac) hP)) (by omega) (fr_n r (Or.inl rfl))
  · rcases (r.1.2.2.1 c hc).1 with hp | ⟨p, hp, ep⟩
    · exact nx_UF r E' hf hd (fun P hP => ax_fin_6 P (by omega) ht e3 ho (by rw [hk]; exact lk_sup_h P (h := -1) (by omega) (by omega) (by omega) n6 hac hp (fun Q hQ => Exists.intro 1 (lk_x1 Q hQ)) (lk_s35_s P hP))) (fun P hP => hY P (lk_supY_m P (by omega) (by omega) (how.trans hac) hp hP)) (by omega) (fr_n r (Or.inl rfl))
    · obtain ⟨h, hh, hX, hYY⟩ := lk_h (s := s) (args := nI (s % 3)) (rf := 0) (self := sv (kl_A K)) (nc := nI NC) (nt := nI NT) (ns := ns) (mn := mn) (n := nI N) (na := nI A) (f := nI (kl_F K)) (ws := nI (kl_W K)) (vs := nI (kl_X KN K + s % 3)) (en := -1) (rs := rs) (pc := nI Pc) (tc := nI T) (dc := nI D) (op := op) (tk := tk) (tp := tp) (fp := fp) (sk := sk) (oc := oc) (of := of) (bt := bt) (ba := ba) (rd := rd) (sl := sl) (ac := ac) (af := af) (fa := fa) (fw := fw) (fv := fv) (wt := wt) (wd := wd) (wv := wv) (pr := pr) (mc := mc) (yc := nI NC) (yt := nI NT) (ys := ns) (ym := mn) (no := nI (cu_O ob N)) (nb := nI (N - cu_O ob N)) (ya := nI A) (yw := nI (kl_Q KN K)) (yv := nI (kl_Y KN K + s % 3)) (yu := nI (kl_F K)) (yo := nI D) (yk := nI T) (yp := nI Pc) (ye := -4) (ycf := cf) (kd := kd) (ytk := tk) (ytp := tp) (ysk := sk) (yoc := yoc) (yof := yof) (ybt := ybt) (ybp := ybp) (sv := sv) (vr := vr) (ow := ow) (ed := ed) (wa := wa) (yh := yh) (vl := vl) (ypr := pe_P pr py Pc) (mo := mo) (mb := mb) r.1.2.2.1 r.1.1 r.1.2.1 hs (p + 1) p 0 (by omega) (by omega) (by omega)
      have fX : ∀ P : SX → Prop, wX_finishSuper_35 P (nI s) h (nI NC) (nI NT) ns mn (nI N) (nI A) (nI (kl_F K)) (nI (kl_W K)) (nI (kl_X KN K + s % 3)) (-1) rs (nI Pc) (nI T) (nI D) cp cf mt op tk tp fp sk oc of bt ba rd sl ac af fa fw fv wt wd wv pr mc → wpX_finish P (nI NC, nI NT, ns, mn, nI N, nI A, nI (kl_F K), nI (kl_W K + 1), nI (kl_X KN K + s % 3), -1, rs, nI Pc, nI T, nI D, cp, cf, mt, op, tk, tp, fp, sk, oc, of, bt, ba, rd, sl, ac, af, fa, fw, fv, wt, wd, wv, pr, mc) := fun P hP => ax_fin_6 P (by omega) ht e3 ho (by rw [hk]; exact lk_sup_h P (h := h) (by omega) (by omega) (by omega) n6 hac ep (fun Q hQ => Exists.intro (p + 2) (hX Q (p + 2) (by omega) hQ)) hP)
      have fY : ∀ P : SY → Prop, wY_activate_35 P (nI s) (sv (kl_A K)) (nI (s % 3)) 0 h (nI NC) (nI NT) ns mn (nI (cu_O ob N)) (nI (N - cu_O ob N)) (nI A) (nI (kl_Q KN K)) (nI (kl_Y KN K + s % 3)) (nI (kl_F K)) (nI D) (nI T) (nI Pc) (-4) cp cf mt kd tk tp sk yoc yof ybt ybp sv vr ow ed wa yh vl (pe_P pr py Pc) mo mb → wpY_step P (nI NC, nI NT, ns, mn, nI (cu_O ob N), nI (N - cu_O ob N), nI A, nI (kl_Q KN K + 1), nI (kl_Y KN K + s % 3), nI (kl_F K), nI D, nI T, nI Pc, -4, cp, cf, mt, kd, tk, tp, sk, yoc, yof, ybt, ybp, sv, vr, ow, ed, wa, yh, vl, pe_P pr py Pc, mo, mb) := fun P hP => hY P (lk_supY_h P (by omega) (by omega) (by omega) (how.trans hac) ep (hYY P (p + 2) (by omega) hP))
      rcases hh with rfl | ⟨oc', tm, ho2, htm, rfl, hmt⟩
      · exact nx_UF r E' hf hd (fun P hP => fX P (lk_s35_s P hP)) (fun P hP => fY P (ay_a35_s P hP)) (by omega) (fr_n r (Or.inl rfl))
      · by_cases hT : T = 200
        · subst hT
          exact nx_UF r E' hf hd (fun P hP => fX P (lk_s35_t P (by omega) hP)) (fun P hP => fY P (ay_a35_t P (by omega) hP)) (by omega) (fr_n r (Or.inr (Or.inl rfl)))
        · by_cases hF : kl_F K = 20
          · exact nx_UF r E' hf hd (fun P hP => fX P (lk_s35_g P hF (by omega) (by omega) hP)) (fun P hP => fY P (ay_a35_g P hF (by omega) (by omega) (by omega) hs (by omega) (Or.inl ⟨rfl, rfl⟩) hmt hP)) (by omega) (fr_n r (Or.inr (Or.inr (Or.inl rfl))))
          · have z := rl_sz r htm
            exact nx_U r E' hf hd (fun P hP => fX P (lk_s35_f P (by omega) (by omega) (by omega) (by omega) hs n6 (ax_act P (fA := kl_X KN K) (v := kl_X KN K) (by omega) (by omega) (by omega) (by omega) (by omega) hs (by omega) (by omega) hmt hP))) (fun P hP => fY P (ay_a35_f P (h' := kl_Y KN K) (by omega) (by omega) (by omega) (by omega) (by omega) (by omega) hs (by omega) (Or.inl ⟨rfl, rfl⟩) hmt hP)) (μ' := 802 * (200 - (T + 1)) + (kl_C KN PN SZ K + 1) + 4 * SZ tm) (by omega) (cf_act r (by omega) (by omega) ho2 htm (by omega) hself (op_ga hvs) (Nat.le_refl _))
/-! a block is entered -/
theorem cf_blk {p a : Nat} (r : (rl_R NC NT N A T Pc D ob K cp cf mt op tk tp fp kd KN PN SZ oc of bt ba sl ac af fa fw fv wt wd wv mc yoc yof ybt ybp sv vr ow ed wa yh vl)) (hT : T < 200) (hF : kl_F K < 20) (ha : a < A) (ht : p < NT) (hr : kl_W K + kl_X KN K ≤ 100 * (kl_F K + 1)) (hm : 802 * (200 - (T + 1)) + (kl_C KN PN SZ K + 1) + 4 * SZ p ≤ μ) : cf_V NC NT ns mn cp cf mt op tk tp fp sk kd py KN PN SZ μ (nI NC, nI NT, ns, mn, nI N, nI A, nI (kl_F ((false, a, 0) :: K)), nI (kl_W ((false, a, 0) :: K) + 1), nI (kl_X KN ((false, a, 0) :: K)), -1, rs, nI Pc, nI (T + 1), nI (ay_mx (kl_F K) D), cp, cf, mt, op, tk, tp, fp, sk, oc, of, bt, ba, rd, sl, ac, af, upd fa (kl_F K + 1) (nI a), upd fw (kl_F K + 1) (nI (kl_W K)), upd fv (kl_F K + 1) (nI (kl_X KN K)), upd wt (kl_W K) (nI p), upd wd (kl_W K) 0, wv, pr, mc) (nI NC, nI NT, ns, mn, nI (cu_O ob N), nI (N - cu_O ob N), nI A, nI (kl_Q KN ((false, a, 0) :: K) + 1), nI (kl_Y KN ((false, a, 0) :: K)), nI (kl_F ((false, a, 0) :: K)), nI (ay_mx (kl_F K) D), nI (T + 1), nI Pc, -4, cp, cf, mt, kd, tk, tp, sk, yoc, yof, ybt, ybp, sv, vr, ow, ed, upd (upd wa (kl_Q KN K) (nI (1024 * a + 8 * 126 + 0))) (kl_Q KN K + 1) (nI (1024 * a + 8 * p + 0)), upd (upd yh (kl_Q KN K) (nI (kl_Y KN K))) (kl_Q KN K + 1) (nI (kl_Y KN K)), vl, pe_P pr py Pc, mo, mb) ∨ cf_E NC NT ns mn cp cf mt op tk tp fp sk kd py KN PN SZ μ (nI NC, nI NT, ns, mn, nI N, nI A, nI (kl_F ((false, a, 0) :: K)), nI (kl_W ((false, a, 0) :: K) + 1), nI (kl_X KN ((false, a, 0) :: K)), -1, rs, nI Pc, nI (T + 1), nI (ay_mx (kl_F K) D), cp, cf, mt, op, tk, tp, fp, sk, oc, of, bt, ba, rd, sl, ac, af, upd fa (kl_F K + 1) (nI a), upd fw (kl_F K + 1) (nI (kl_W K)), upd fv (kl_F K + 1) (nI (kl_X KN K)), upd wt (kl_W K) (nI p), upd wd (kl_W K) 0, wv, pr, mc) (nI NC, nI NT, ns, mn, nI (cu_O ob N), nI (N - cu_O ob N), nI A, nI (kl_Q KN ((false, a, 0) :: K) + 1), nI (kl_Y KN ((false, a, 0) :: K)), nI (kl_F ((false, a, 0) :: K)), nI (ay_mx (kl_F K) D), nI (T + 1), nI Pc, -4, cp, cf, mt, kd, tk, tp, sk, yoc, yof, ybt, ybp, sv, vr, ow, ed, upd (upd wa (kl_Q KN K) (nI (1024 * a + 8 * 126 + 0))) (kl_Q KN K + 1) (nI (1024 * a + 8 * p + 0)), upd (upd yh (kl_Q KN K) (nI (kl_Y KN K))) (kl_Q KN K + 1) (nI (kl_Y KN K)), vl, pe_P pr py Pc, mo, mb) := by
  have z := rl_sz r ht
  obtain ⟨⟨n1, n2, n3, n4, n5⟩, ⟨n6, n7, n8, n9, n10, n11⟩, ⟨n12, n13, n14, n15, n16⟩, b, nb1, nb2⟩ := rl_n r
  obtain ⟨P, H, ⟨S, F0, AF⟩, B⟩ := r
  have mx : kl_F K + 1 ≤ ay_mx (kl_F K) D ∧ ay_mx (kl_F K) D ≤ 20 := by
    unfold ay_mx
    split <;> omega
  refine cf_Ei (K := (false, a, 0) :: K) (t := p) (T := T + 1) (D := ay_mx (kl_F K) D) ⟨P, H, ⟨⟨⟨ha, by omega, fun h => absurd h (by decide), hr, hF⟩, pk_us, pk_us, pk_us, ?_, ?_, ?_⟩, ?_, ?_⟩, ⟨B.1.1, by omega, by omega⟩, ⟨n14, mx.1, mx.2⟩, B.2.2⟩ ⟨ht, ?_⟩ pk_us pk_us pk_us hm
  · rw [pk_un (by omega), pk_us]
  · rw [pk_un (by omega), pk_us]
  · exact kl_cg (fun _ _ h => h) (by omega) (fun i hi => ⟨pk_un (by omega), pk_un (by omega)⟩) (fun i _ hi => ⟨pk_un (by omega), pk_un (by omega), pk_un (by omega)⟩) (fun _ _ => rfl) (fun i hi => ⟨by rw [pk_un (by omega), pk_un (by omega)], by rw [pk_un (by omega), pk_un (by omega)]⟩) (fun _ _ => rfl) S
  · exact ⟨by rw [pk_un (by omega)]; exact F0.1, by rw [pk_un (by omega)]; exact F0.2.1, by rw [pk_un (by omega)]; exact F0.2.2⟩
  · intro a' ha'
    have z := AF a' ha'
    have q := kl_ae (kl_Ln (a := a) (b := a') (m := 0) (Or.inr (by omega)) K)
    exact ⟨z.1.trans q.1.symm, z.2.trans q.2.symm⟩
  · show kl_W K + kl_X KN K + SZ p ≤ 100 * (kl_F K + 1 + 1)
    omega
theorem op_14 (r : (rl_R NC NT N A T Pc D ob K cp cf mt op tk tp fp kd KN PN SZ oc of bt ba sl ac af fa fw fv wt wd wv mc yoc yof ybt ybp sv vr ow ed wa yh vl)) (E : en_F NT K KN SZ t 1 wt wd wa) (hk : KN t = 14) (hv : vb_R ob N (wv (kl_X KN K)) (vl (kl_Y KN K))) (hm : 802 * (200 - T) + kl_C KN PN SZ K + 1 < μ) : nx_S NC NT ns mn cp cf mt op tk tp fp sk kd py KN PN SZ μ (nI NC, nI NT, ns, mn, nI N, nI A, nI (kl_F K), nI (kl_W K + 1), nI (kl_X KN K + 1), -1, rs, nI Pc, nI T, nI D, cp, cf, mt, op, tk, tp, fp, sk, oc, of, bt, ba, rd, sl, ac, af, fa, fw, fv, wt, wd, wv, pr, mc) (nI NC, nI NT, ns, mn, nI (cu_O ob N), nI (N - cu_O ob N), nI A, nI (kl_Q KN K + 1), nI (kl_Y KN K + 1), nI (kl_F K), nI D, nI T, nI Pc, -4, cp, cf, mt, kd, tk, tp, sk, yoc, yof, ybt, ybp, sv, vr, ow, ed, wa, yh, vl, pe_P pr py Pc, mo, mb) := by
  obtain ⟨⟨n1, n2, n3, n4, n5⟩, ⟨n6, n7, n8, n9, n10, n11⟩, ⟨n12, n13, n14, n15, n16⟩, b, nb1, nb2⟩ := rl_n r
  obtain ⟨⟨e1, e2⟩, e3, e4, e5⟩ := E
  have Z := rl_sz r e1
  obtain ⟨v1, v2, v3, v4, v5, v6, v7⟩ := rl_tm r e1
  rw [hk] at v2 v3 v4 v5 v6 Z
  by_cases h3 : vb_T (wv (kl_X KN K)) = 3
  · obtain ⟨bl, hb, h0, hx, hy⟩ := vB_3 hv h3
    obtain ⟨tb, a, htb, hkb, ha, b1, b2, b3, b4⟩ := r.2.1.2.1 bl hb h0
    have g1 := cu_gf h0 hb
    have g2 := cu_le ob N
    obtain ⟨w1, w2, w3, w4, w5, w6, w7⟩ := rl_tm r htb
    rw [hkb] at w5 w6
    obtain ⟨p1, p2⟩ := w6 0 (by omega)
    have tb1 : tb < 100 := by omega
    rcases w5.2.2.2.1 rfl with hkv | ⟨j, hj, hkv⟩
    · have fX : ∀ P : SX → Prop, wX_finishCall_73 P 0 4294967296 (nI bl) (nI tb) (-1) 0 0 (nI NC) (nI NT) ns mn (nI N) (nI A) (nI (kl_F K)) (nI (kl_W K)) (nI (kl_X KN K)) (-1) rs (nI Pc) (nI T) (nI D) cp cf mt op tk tp fp sk oc of bt ba rd sl ac af fa fw fv wt wd wv pr mc → wpX_finish P (nI NC, nI NT, ns, mn, nI N, nI A, nI (kl_F K), nI (kl_W K + 1), nI (kl_X KN K + 1), -1, rs, nI Pc, nI T, nI D, cp, cf, mt, op, tk, tp, fp, sk, oc, of, bt, ba, rd, sl, ac, af, fa, fw, fv, wt, wd, wv, pr, mc) := fun P hP => ax_fin_11 P (by omega) Z.2.2 e3 v3 (br_t rfl (ax_call_h P (by omega) hx (by omega) b1 tb1 hkv (Or.inl ⟨rfl, rfl⟩) hP))
      have fY : ∀ P : SY → Prop, wY_callBlock_48 P (vb_pk 3 (nI (cu_g ob bl))) 0 0 (-1) 0 (nI NC) (nI NT) ns mn (nI (cu_O ob N)) (nI (N - cu_O ob N)) (nI A) (nI (kl_Q KN K)) (nI (kl_Y KN K)) (nI (kl_F K)) (nI D) (nI T) (nI Pc) (-4) cp cf mt kd tk tp sk yoc yof ybt ybp sv vr ow ed wa yh vl (pe_P pr py Pc) mo mb → wpY_step P (nI NC, nI NT, ns, mn, nI (cu_O ob N), nI (N - cu_O ob N), nI A, nI (kl_Q KN K + 1), nI (kl_Y KN K + 1), nI (kl_F K), nI D, nI T, nI Pc, -4, cp, cf, mt, kd, tk, tp, sk, yoc, yof, ybt, ybp, sv, vr, ow, ed, wa, yh, vl, pe_P pr py Pc, mo, mb) := fun P hP => ay_step_1 (s := 1) _ (by omega) (by omega) Z.2.2 (by omega) (by omega) e5 v2 (by decide) (ay_f1_14 P Z.2.2 v2 (by omega) (by rw [hy]; exact ay_call_h P (by omega) b2 tb1 hkv (Or.inl ⟨rfl, rfl⟩) hP))
      by_cases hT : T = 200
      · subst hT
        exact nx_UF r ⟨⟨e1, e2⟩, e3, e4, e5⟩ (by rw [hk]; decide) (by omega) (fun P hP => fX P (ax_call_t P hP)) (fun P hP => fY P (ay_call_t P hP)) (by omega) (fr_n r (Or.inr (Or.inl rfl)))
      · by_cases hF : kl_F K = 20
        · exact nx_UF r ⟨⟨e1, e2⟩, e3, e4, e5⟩ (by rw [hk]; decide) (by omega) (fun P hP => fX P (ax_call_g P hF (by omega) hP)) (fun P hP => fY P (ay_call_0 P (by omega) (by omega) b2 tb1 p1 b4 (ay_enter_g P hF hP))) (by omega) (fr_n r (Or.inr (Or.inr (Or.inl rfl))))
        · have z := rl_sz r (t := PN (3 * tb + 0)) (by omega)
          exact nx_U r ⟨⟨e1, e2⟩, e3, e4, e5⟩ (by rw [hk]; decide) (by omega) (fun P hP => fX P (ax_call_f0 P (by omega) (by omega) (by omega) (by omega) (by omega) tb1 b3 p1 hP)) (fun P hP => fY P (ay_call_0 P (by omega) (by omega) b2 tb1 p1 b4 (ay_enter_f (m := 126) P (by omega) (by omega) (by omega) hP))) (μ' := 802 * (200 - (T + 1)) + (kl_C KN PN SZ K + 1) + 4 * SZ (PN (3 * tb + 0))) (by omega) (cf_blk r (by omega) (by omega) ha (by omega) (by omega) (Nat.le_refl _))
    · exact nx_UF r ⟨⟨e1, e2⟩, e3, e4, e5⟩ (by rw [hk]; decide) (by omega) (fun P hP => ax_fin_11 P (by omega) Z.2.2 e3 v3 (br_t rfl (ax_call_h P (by omega) hx (by omega) b1 tb1 hkv (Or.inr ⟨ax_nIm1 (by omega), rfl⟩) (ax_call_m P (by decide) hP)))) (fun P hP => ay_step_1 (s := 1) _ (by omega) (by omega) Z.2.2 (by omega) (by omega) e5 v2 (by decide) (ay_f1_14 P Z.2.2 v2 (by omega) (by rw [hy]; exact ay_call_h P (by omega) b2 tb1 hkv (Or.inr ⟨nI_pos (by omega), rfl⟩) (ay_call_m P (by decide) hP)))) (by omega) (fr_n r (Or.inl rfl))
  · have h3' : ¬ vb_T (vl (kl_Y KN K)) = 3 := by rw [← vB_T hv]; exact h3
    exact nx_UF r ⟨⟨e1, e2⟩, e3, e4, e5⟩ (by rw [hk]; decide) (by omega) (fun P hP => ax_fin_11 P (by omega) Z.2.2 e3 v3 (br_t rfl (ax_call_s P (by omega) h3 hP))) (fun P hP => ay_step_1 (s := 1) _ (by omega) (by omega) Z.2.2 (by omega) (by omega) e5 v2 (by decide) (ay_f1_14 P Z.2.2 v2 (by omega) (ay_call_s P h3' hP))) (by omega) (fr_n r (Or.inl rfl))
theorem op_27 (r : (rl_R NC NT N A T Pc D ob K cp cf mt op tk tp fp kd KN PN SZ oc of bt ba sl ac af fa fw fv wt wd wv mc yoc yof ybt ybp sv vr ow ed wa yh vl)) (E : en_F NT K KN SZ t 2 wt wd wa) (hk : KN t = 27) (hv : vb_R ob N (wv (kl_X KN K)) (vl (kl_Y KN K))) (hw : vb_R ob N (wv (kl_X KN K + 1)) (vl (kl_Y KN K + 1))) (hm : 802 * (200 - T) + kl_C KN PN SZ K + 1 < μ) : nx_S NC NT ns mn cp cf mt op tk tp fp sk kd py KN PN SZ μ (nI NC, nI NT, ns, mn, nI N, nI A, nI (kl_F K), nI (kl_W K + 1), nI (kl_X KN K + 2), -1, rs, nI Pc, nI T, nI D, cp, cf, mt, op, tk, tp, fp, sk, oc, of, bt, ba, rd, sl, ac, af, fa, fw, fv, wt, wd, wv, pr, mc) (nI NC, nI NT, ns, mn, nI (cu_O ob N), nI (N - cu_O ob N), nI A, nI (kl_Q KN K + 1), nI (kl_Y KN K + 2), nI (kl_F K), nI D, nI T, nI Pc, -4, cp, cf, mt, kd, tk, tp, sk, yoc, yof, ybt, ybp, sv, vr, ow, ed, wa, yh, vl, pe_P pr py Pc, mo, mb) := by
  obtain ⟨⟨n1, n2, n3, n4, n5⟩, ⟨n6, n7, n8, n9, n10, n11⟩, ⟨n12, n13, n14, n15, n16⟩, b, nb1, nb2⟩ := rl_n r
  obtain ⟨⟨e1, e2⟩, e3, e4, e5⟩ := E
  have Z := rl_sz r e1
  obtain ⟨v1, v2, v3, v4, v5, v6, v7⟩ := rl_tm r e1
  rw [hk] at v2 v3 v4 v5 v6 Z
  have pX : ∀ P : SX → Prop, wX_finishCall_14 P 1 (wv (kl_X KN K + 1)) (nI NC) (nI NT) ns mn (nI N) (nI A) (nI (kl_F K)) (nI (kl_W K)) (nI (kl_X KN K + 1)) (-1) rs (nI Pc) (nI T) (nI D) cp cf mt op tk tp fp sk oc of bt ba rd sl ac af fa fw fv wt wd wv pr mc → wpX_finish P (nI NC, nI NT, ns, mn, nI N, nI A, nI (kl_F K), nI (kl_W K + 1), nI (kl_X KN K + 2), -1, rs, nI Pc, nI T, nI D, cp, cf, mt, op, tk, tp, fp, sk, oc, of, bt, ba, rd, sl, ac, af, fa, fw, fv, wt, wd, wv, pr, mc) := fun P hP => ax_fin_22 P (by omega) Z.2.2 e3 v3 (br_f (by decide) (ax_pop (q := kl_X KN K + 1) _ (by omega) hP))
  by_cases h3 : vb_T (wv (kl_X KN K)) = 3
  · obtain ⟨bl, hb, h0, hx, hy⟩ := vB_3 hv h3
    obtain ⟨tb, a, htb, hkb, ha, b1, b2, b3, b4⟩ := r.2.1.2.1 bl hb h0
    have g1 := cu_gf h0 hb
    have g2 := cu_le ob N
    obtain ⟨w1, w2, w3, w4, w5, w6, w7⟩ := rl_tm r htb
    rw [hkb] at w5 w6
    obtain ⟨p1, p2⟩ := w6 0 (by omega)
    have tb1 : tb < 100 := by omega
    rcases w5.2.2.2.1 rfl with hkv | ⟨j, hj, hkv⟩
    · exact nx_UF r ⟨⟨e1, e2⟩, e3, e4, e5⟩ (by rw [hk]; decide) (by omega) (fun P hP => pX P (ax_call_h P (by omega) hx (by omega) b1 tb1 hkv (Or.inl ⟨rfl, rfl⟩) (ax_call_m P (by decide) hP))) (fun P hP => ay_step_2 (s := 2) _ (by omega) (by omega) Z.2.2 (by omega) (by omega) e5 v2 (by decide) (by decide) (ay_t_27 P Z.2.2 v2 (by omega) (by rw [hy]; exact ay_call_h P (by omega) b2 tb1 hkv (Or.inl ⟨rfl, rfl⟩) (ay_call_m P (by decide) hP)))) (by omega) (fr_n r (Or.inl rfl))
    · have fX : ∀ P : SX → Prop, wX_finishCall_73 P 1 (wv (kl_X KN K + 1)) (nI bl) (nI tb) (nI j) 1 1 (nI NC) (nI NT) ns mn (nI N) (nI A) (nI (kl_F K)) (nI (kl_W K)) (nI (kl_X KN K)) (-1) rs (nI Pc) (nI T) (nI D) cp cf mt op tk tp fp sk oc of bt ba rd sl ac af fa fw fv wt wd wv pr mc → wpX_finish P (nI NC, nI NT, ns, mn, nI N, nI A, nI (kl_F K), nI (kl_W K + 1), nI (kl_X KN K + 2), -1, rs, nI Pc, nI T, nI D, cp, cf, mt, op, tk, tp, fp, sk, oc, of, bt, ba, rd, sl, ac, af, fa, fw, fv, wt, wd, wv, pr, mc) := fun P hP => pX P (ax_call_h P (by omega) hx (by omega) b1 tb1 hkv (Or.inr ⟨ax_nIm1 (by omega), rfl⟩) hP)
      have fY : ∀ P : SY → Prop, wY_callBlock_48 P (vb_pk 3 (nI (cu_g ob bl))) 1 (vl (kl_Y KN K + 1)) (nI j) 1 (nI NC) (nI NT) ns mn (nI (cu_O ob N)) (nI (N - cu_O ob N)) (nI A) (nI (kl_Q KN K)) (nI (kl_Y KN K)) (nI (kl_F K)) (nI D) (nI T) (nI Pc) (-4) cp cf mt kd tk tp sk yoc yof ybt ybp sv vr ow ed wa yh vl (pe_P pr py Pc) mo mb → wpY_step P (nI NC, nI NT, ns, mn, nI (cu_O ob N), nI (N - cu_O ob N), nI A, nI (kl_Q KN K + 1), nI (kl_Y KN K + 2), nI (kl_F K), nI D, nI T, nI Pc, -4, cp, cf, mt, kd, tk, tp, sk, yoc, yof, ybt, ybp, sv, vr, ow, ed, wa, yh, vl, pe_P pr py Pc, mo, mb) := fun P hP => ay_step_2 (s := 2) _ (by omega) (by omega) Z.2.2 (by omega) (by omega) e5 v2 (by decide) (by decide) (ay_t_27 P Z.2.2 v2 (by omega) (by rw [hy]; exact ay_call_h P (by omega) b2 tb1 hkv (Or.inr ⟨nI_pos (by omega), rfl⟩) hP))
      by_cases hT : T = 200
      · subst hT
        exact nx_UF r ⟨⟨e1, e2⟩, e3, e4, e5⟩ (by rw [hk]; decide) (by omega) (fun P hP => fX P (ax_call_t P hP)) (fun P hP => fY P (ay_call_t P hP)) (by omega) (fr_n r (Or.inr (Or.inl rfl)))
      · by_cases hF : kl_F K = 20
        · exact nx_UF r ⟨⟨e1, e2⟩, e3, e4, e5⟩ (by rw [hk]; decide) (by omega) (fun P hP => fX P (ax_call_g P hF (by omega) hP)) (fun P hP => fY P (ay_call_1 P (by omega) (by omega) b2 tb1 p1 b4 (by omega) hj (ay_enter_g P hF hP))) (by omega) (fr_n r (Or.inr (Or.inr (Or.inl rfl))))
        · have z := rl_sz r (t := PN (3 * tb + 0)) (by omega)
          exact nx_U r ⟨⟨e1, e2⟩, e3, e4, e5⟩ (by rw [hk]; decide) (by omega) (fun P hP => fX P (ax_call_f1 P (by omega) (by omega) (by omega) (by omega) (by omega) tb1 (by omega) hj b3 p1 hP)) (fun P hP => fY P (ay_call_1 P (by omega) (by omega) b2 tb1 p1 b4 (by omega) hj (ay_enter_f (m := 126) P (by omega) (by omega) (by omega) hP))) (μ' := 802 * (200 - (T + 1)) + (kl_C KN PN SZ K + 1) + 4 * SZ (PN (3 * tb + 0))) (by omega) (cf_blk (rl_set r ha hj hw) (by omega) (by omega) ha (by omega) (by omega) (Nat.le_refl _))
  · have h3' : ¬ vb_T (vl (kl_Y KN K)) = 3 := by rw [← vB_T hv]; exact h3
    exact nx_UF r ⟨⟨e1, e2⟩, e3, e4, e5⟩ (by rw [hk]; decide) (by omega) (fun P hP => pX P (ax_call_s P (by omega) h3 hP)) (fun P hP => ay_step_2 (s := 2) _ (by omega) (by omega) Z.2.2 (by omega) (by omega) e5 v2 (by decide) (by decide) (ay_t_27 P Z.2.2 v2 (by omega) (ay_call_s P h3' hP))) (by omega) (fr_n r (Or.inl rfl))
end
end
section
/-! a method is left from within -/
def kl_U (b : Nat) : List (Bool × Nat × Nat) → List (Bool × Nat × Nat)
  | [] => []
  | (true, _, _) :: K => kl_U b K
  | (false, a, m) :: K => if a = b ∧ m = 1 then K else kl_U b K
theorem kl_Uf (a : Nat) (K : List (Bool × Nat × Nat)) : kl_U a ((false, a, 1) :: K) = K := if_pos ⟨rfl, rfl⟩
theorem kl_Un {a b m : Nat} (h : a ≠ b ∨ m ≠ 1) (K : List (Bool × Nat × Nat)) : kl_U b ((false, a, m) :: K) = kl_U b K := if_neg (by omega)
section
variable {nt na : Nat} {R : Int64 → Int64 → Prop} {KN PN SZ : Nat → Nat} {fa fw fv wt wd : Nat → Int32} {wv : Nat → Int64} {wa hs : Nat → Int32} {vl : Nat → Int64} {b : Nat}
theorem kl_SU : ∀ {K : List (Bool × Nat × Nat)}, kl_S nt na R KN SZ fa fw fv wt wd wv wa hs vl K → 1 ≤ kl_L b K → kl_S nt na R KN SZ fa fw fv wt wd wv wa hs vl (kl_U b K) ∧ kl_F (kl_U b K) + 1 = kl_L b K ∧ fw (kl_L b K) = nI (kl_W (kl_U b K)) ∧ fv (kl_L b K) = nI (kl_X KN (kl_U b K)) ∧ kl_C KN PN SZ (kl_U b K) ≤ kl_C KN PN SZ K ∧ kl_X KN (kl_U b K) ≤ kl_X KN K ∧ kl_Y KN (kl_U b K) ≤ kl_Y KN K ∧ kl_Q KN (kl_U b K) ≤ kl_Q KN K
  | [], _, h => absurd h (by show ¬ 1 ≤ 0; omega)
  | (true, t, d) :: K, S, h => by
    obtain ⟨h1, h2, h3, h4, h5, h6, h7, h8⟩ := kl_SU (K := K) S.2.2.2.2.2 h
    refine ⟨h1, h2, h3, h4, ?_, ?_, ?_, ?_⟩
    · exact Nat.le_trans h5 (Nat.le_add_right _ _)
    · exact Nat.le_trans h6 (Nat.le_add_right _ _)
    · exact Nat.le_trans h7 (Nat.le_add_right _ _)
    · exact Nat.le_trans h8 (Nat.le_add_right _ _)
  | (false, a, m) :: K, S, h => by
    by_cases e : a = b ∧ m = 1
    · obtain ⟨rfl, rfl⟩ := e
      rw [kl_Lf, kl_Uf]
      exact ⟨S.2.2.2.2.2.2, rfl, S.2.2.1, S.2.2.2.1, Nat.le_succ _, Nat.le_refl _, Nat.le_refl _, Nat.le_succ _⟩
    · have e' : a ≠ b ∨ m ≠ 1 := by omega
      rw [kl_Ln e'] at h ⊢
      rw [kl_Un e']
      obtain ⟨h1, h2, h3, h4, h5, h6, h7, h8⟩ := kl_SU (K := K) S.2.2.2.2.2.2 h
      exact ⟨h1, h2, h3, h4, Nat.le_trans h5 (Nat.le_succ _), h6, h7, Nat.le_trans h8 (Nat.le_succ _)⟩
theorem kl_ed {K : List (Bool × Nat × Nat)} (a : Nat) : kl_ay K a = 0 ∨ kl_ay K a = 1 := by
  unfold kl_ay
  split
  · exact Or.inl rfl
  · split
    · exact Or.inr rfl
    · exact Or.inl rfl
end
section
variable {nc nt ns mn n na f ws vs en pc tc dc : Int32} {rs : Int64} {cp cf mt op tk tp fp sk oc bt ba rd ac af fa fw fv wt wd pr mc : Nat → Int32} {of sl wv : Nat → Int64}
variable {NT A : Nat} {R : Int64 → Int64 → Prop} {KN SZ : Nat → Nat} {wv0 : Nat → Int64} {wa yh : Nat → Int32} {vl : Nat → Int64} {b : Nat}
theorem rt_x (hA : A ≤ 201) : ∀ (K : List (Bool × Nat × Nat)), kl_S NT A R KN SZ fa fw fv wt wd wv0 wa yh vl K → ∀ af : Nat → Int32, (∀ a, a < A → af a = kl_ax K a) → 1 ≤ kl_L b K → ∃ af' : Nat → Int32, (∀ a, a < A → af' a = kl_ax (kl_U b K) a) ∧ ∀ (post : SX → Prop) (m : Nat), kl_F K + 1 < m → post (nc, nt, ns, mn, n, na, nI (kl_F (kl_U b K)), ws, vs, en, rs, pc, tc, dc, cp, cf, mt, op, tk, tp, fp, sk, oc, of, bt, ba, rd, sl, ac, af', fa, fw, fv, wt, wd, wv, pr, mc) → wX_finishReturn_62 post (nI (kl_L b K)) m (nI (kl_F K)) nc nt ns mn n na (nI (kl_F K)) ws vs en rs pc tc dc cp cf mt op tk tp fp sk oc of bt ba rd sl ac af fa fw fv wt wd wv pr mc
  | [], _, _, _, h => absurd h (by show ¬ 1 ≤ 0; omega)
  | (true, t, d) :: K, S, af, AF, h => rt_x hA K S.2.2.2.2.2 af AF h
  | (false, a, m) :: K, S, af, AF, h => by
    have hF := kl_Fb S
    obtain ⟨⟨s1, s2, s3, s4, s5⟩, s6, s7, s8, s9, s10, S⟩ := S
    have hF' : kl_F ((false, a, m) :: K) = kl_F K + 1 := rfl
    have lb := kl_Lb b ((false, a, m) :: K)
    rw [hF'] at lb hF ⊢
    have nl : ¬ nI (kl_F K + 1) < nI (kl_L b ((false, a, m) :: K)) := nI_nlt (by omega) (by omega)
    have stop : ∀ af' : Nat → Int32, (∀ a', a' < A → af' a' = kl_ax K a') → (∀ Q : SX → Prop, Q (nc, nt, ns, mn, n, na, nI (kl_F K), ws, vs, en, rs, pc, tc, dc, cp, cf, mt, op, tk, tp, fp, sk, oc, of, bt, ba, rd, sl, ac, af', fa, fw, fv, wt, wd, wv, pr, mc) → wpX_leave Q (nc, nt, ns, mn, n, na, nI (kl_F K + 1), ws, vs, en, rs, pc, tc, dc, cp, cf, mt, op, tk, tp, fp, sk, oc, of, bt, ba, rd, sl, ac, af, fa, fw, fv, wt, wd, wv, pr, mc)) → ∃ af'' : Nat → Int32, (∀ a', a' < A → af'' a' = kl_ax (kl_U b ((false, a, m) :: K)) a') ∧ ∀ (post : SX → Prop) (k : Nat), kl_F K + 1 + 1 < k → post (nc, nt, ns, mn, n, na, nI (kl_F (kl_U b ((false, a, m) :: K))), ws, vs, en, rs, pc, tc, dc, cp, cf, mt, op, tk, tp, fp, sk, oc, of, bt, ba, rd, sl, ac, af'', fa, fw, fv, wt, wd, wv, pr, mc) → wX_finishReturn_62 post (nI (kl_L b ((false, a, m) :: K))) k (nI (kl_F K + 1)) nc nt ns mn n na (nI (kl_F K + 1)) ws vs en rs pc tc dc cp cf mt op tk tp fp sk oc of bt ba rd sl ac af fa fw fv wt wd wv pr mc := by
      intro af' AF' hl
      by_cases e : a = b ∧ m = 1
      · obtain ⟨rfl, rfl⟩ := e
        rw [kl_Lf, kl_Uf]
        rw [kl_Lf] at nl
        refine ⟨af', AF', fun post k hk hp => ?_⟩
        obtain ⟨k, rfl⟩ : ∃ k', k = k' + 2 := ⟨k - 2, by omega⟩
        exact br_f nl (hl _ (nm_r (pk_m1 (kl_F K)) (br_t (nI_lt (by omega) (by omega)) hp)))
      · have e' : a ≠ b ∨ m ≠ 1 := by omega
        rw [kl_Ln e'] at h nl ⊢
        rw [kl_Un e']
        obtain ⟨af'', A2, hx⟩ := rt_x hA K S af' AF' h
        refine ⟨af'', A2, fun post k hk hp => ?_⟩
        obtain ⟨k, rfl⟩ : ∃ k', k = k' + 1 := ⟨k - 1, by omega⟩
        exact br_f nl (hl _ (nm_r (pk_m1 (kl_F K)) (hx post k (by omega) hp)))
    have fa1 := AF a s1
    by_cases hm1 : m = 1
    · subst hm1
      obtain ⟨a1, l0⟩ := s3 rfl
      have g1 : af a = nI (kl_F K + 1) := by
        rw [fa1]
        exact (kl_a1 a1 (kl_Lf a K)).1
      refine stop (upd af a (-1)) ?_ (fun Q hQ => ax_leave_m Q s5 (by omega) s6 g1 hQ)
      intro a' ha'
      by_cases e : a' = a
      · subst e
        rw [pk_us]
        exact (kl_a0 a1 l0).1.symm
      · rw [pk_un e]
        exact (AF a' ha').trans (kl_ae (kl_Ln (a := a) (b := a') (m := 1) (Or.inl (fun z => e z.symm)) K)).1
    · have hm0 : m = 0 := by omega
      subst hm0
      have Lb : ∀ a', kl_L a' ((false, a, 0) :: K) = kl_L a' K := fun a' => kl_Ln (Or.inr (by omega)) K
      have g1 : ¬ af a = nI (kl_F K + 1) := by
        rw [fa1]
        unfold kl_ax
        rw [Lb]
        have lb := kl_Lb a K
        split
        · exact fun z => by rw [show (0 : Int32) = nI 0 from rfl, nI_eq (by omega) (by omega)] at z; omega
        · split
          · exact fun z => ax_nIm1 (n := kl_F K + 1) (by omega) z.symm
          · exact fun z => by rw [nI_eq (by omega) (by omega)] at z; omega
      exact stop af (fun a' ha' => (AF a' ha').trans (kl_ae (Lb a')).1) (fun Q hQ => ax_leave_b Q s5 (by omega) s6 g1 hQ)
theorem rt_x0 (hA : A ≤ 201) {q : Nat} (hq : q < 2100) : ∀ (K : List (Bool × Nat × Nat)), kl_S NT A R KN SZ fa fw fv wt wd wv0 wa yh vl K → ∀ af : Nat → Int32, ∃ af' : Nat → Int32, ∀ (post : SX → Prop) (m : Nat), kl_F K + 1 < m → post (nc, nt, ns, mn, n, na, nI 0, ws, nI q, 0, wv q, pc, tc, dc, cp, cf, mt, op, tk, tp, fp, sk, oc, of, bt, ba, rd, sl, ac, af', fa, fw, fv, wt, wd, wv, pr, mc) → wX_finishReturn_62 post (nI 0) m (nI (kl_F K)) nc nt ns mn n na (nI (kl_F K)) ws (nI (q + 1)) en rs pc tc dc cp cf mt op tk tp fp sk oc of bt ba rd sl ac af fa fw fv wt wd wv pr mc
  | [], _, af => ⟨af, fun post m hm hp => by
    obtain ⟨m, rfl⟩ : ∃ k', m = k' + 2 := ⟨m - 2, by omega⟩
    exact br_f (by decide) (ax_leave_0 _ hq (nm_r (e' := -1) (by decide) (br_t (by decide) hp)))⟩
  | (true, t, d) :: K, S, af => rt_x0 hA hq K S.2.2.2.2.2 af
  | (false, a, m) :: K, S, af => by
    have hF := kl_Fb S
    obtain ⟨⟨s1, s2, s3, s4, s5⟩, s6, s7, s8, s9, s10, S⟩ := S
    have hF' : kl_F ((false, a, m) :: K) = kl_F K + 1 := rfl
    rw [hF'] at hF ⊢
    have nl : ¬ nI (kl_F K + 1) < nI 0 := nI_nlt (by omega) (by omega)
    by_cases g1 : af a = nI (kl_F K + 1)
    · obtain ⟨af', hx⟩ := rt_x0 hA hq K S (upd af a (-1))
      refine ⟨af', fun post k hk hp => ?_⟩
      obtain ⟨k, rfl⟩ : ∃ k', k = k' + 1 := ⟨k - 1, by omega⟩
      exact br_f nl (ax_leave_m _ s5 (by omega) s6 g1 (nm_r (pk_m1 (kl_F K)) (hx post k (by omega) hp)))
    · obtain ⟨af', hx⟩ := rt_x0 hA hq K S af
      refine ⟨af', fun post k hk hp => ?_⟩
      obtain ⟨k, rfl⟩ : ∃ k', k = k' + 1 := ⟨k - 1, by omega⟩
      exact br_f nl (ax_leave_b _ s5 (by omega) s6 g1 (nm_r (pk_m1 (kl_F K)) (hx post k (by omega) hp)))
theorem rt_xs (post : SX → Prop) {g a q : Nat} (hq : q < 2100) (hg : g < 21) (ha : a < 201) (h1 : fa g = nI a) (h2 : af a = -1) (hp : post (nc, nt, ns, mn, n, na, nI g, ws, nI q, 1, rs, pc, tc, dc, cp, cf, mt, op, tk, tp, fp, sk, oc, of, bt, ba, rd, sl, ac, af, fa, fw, fv, wt, wd, wv, pr, mc)) : wpX_finishReturn post (nc, nt, ns, mn, n, na, nI g, ws, nI (q + 1), en, rs, pc, tc, dc, cp, cf, mt, op, tk, tp, fp, sk, oc, of, bt, ba, rd, sl, ac, af, fa, fw, fv, wt, wd, wv, pr, mc) := by
  unfold wpX_finishReturn
  exact ax_pop _ hq (And.intro (vp_in_nI hg (by decide)) (And.intro (by rw [nI_clamp (by omega), h1]; exact vp_in_nI ha (by decide)) (nm_r (e' := -1) (by rw [nI_clamp (n := g) (by omega), h1, nI_clamp (by omega), h2]) (br_t rfl hp))))
theorem rt_xf (post : SX → Prop) {g a q k w v m : Nat} (hq : q < 2100) (hg : g < 21) (ha : a < 201) (hk : k < 21) (hv : v < 2100) (h1 : fa g = nI a) (h2 : af a = nI k) (h3 : fw k = nI w) (h4 : fv k = nI v) (hp : wX_finishReturn_62 post (nI k) m (nI g) nc nt ns mn n na (nI g) (nI w) (nI (v + 1)) en rs pc tc dc cp cf mt op tk tp fp sk oc of bt ba rd sl ac af fa fw fv wt wd (vp_updL wv v (wv q)) pr mc) : wpX_finishReturn post (nc, nt, ns, mn, n, na, nI g, ws, nI (q + 1), en, rs, pc, tc, dc, cp, cf, mt, op, tk, tp, fp, sk, oc, of, bt, ba, rd, sl, ac, af, fa, fw, fv, wt, wd, wv, pr, mc) := by
  unfold wpX_finishReturn
  exact ax_pop _ hq (And.intro (vp_in_nI hg (by decide)) (And.intro (by rw [nI_clamp (by omega), h1]; exact vp_in_nI ha (by decide)) (nm_r (e' := nI k) (by rw [nI_clamp (n := g) (by omega), h1, nI_clamp (by omega), h2]) (br_f (ax_nIm1 (by omega)) (And.intro (vp_in_nI hk (by decide)) (nm_r (e' := nI w) (by rw [nI_clamp (by omega)]; exact h3) (And.intro (vp_in_nI hk (by decide)) (nm_r (e' := nI v) (by rw [nI_clamp (by omega)]; exact h4) (ax_push _ hv (Exists.intro m hp))))))))))
end
end
section
theorem ed_self (g : Nat → Int32) (a : Nat) : upd g a (g a) = g := by
  funext j
  unfold upd
  split
  · next h => rw [h]
  · rfl
section
variable {yc yt ys ym no nb ya yw yv yu yo yk yp ye : Int32} {ycp ycf ymt kd ytk ytp ysk yoc ybt ybp ow ed wa yh ypr mo mb : Nat → Int32} {yof sv vr vl : Nat → Int64}
variable {NC NT A : Nat} {R : Int64 → Int64 → Prop} {KN PN SZ : Nat → Nat} {fa fw fv wt wd : Nat → Int32} {wv : Nat → Int64} {b : Nat} {x : Int64} {cp cf mt op tk tp fp : Nat → Int32}
theorem ry_e (post : SY → Prop) {q a t s n : Nat} {x1 : Int32} (hq : q < 2200) (ha : a < 202) (ht : t < 100) (hs : s < 8) (h1 : wa q = nI (1024 * a + 8 * t + s)) (h01 : ed a = 0 ∨ ed a = 1) (hp : wY_leave_55 post x1 x yc yt ys ym no nb ya yv yo yk yp ye n 0 (nI q) yu ycp ycf ymt kd ytk ytp ysk yoc yof ybt ybp sv vr ow ed wa yh vl ypr mo mb) : wY_leave_55 post x1 x yc yt ys ym no nb ya yv yo yk yp ye (n + 1) 0 (nI (q + 1)) yu ycp ycf ymt kd ytk ytp ysk yoc yof ybt ybp sv vr ow ed wa yh vl ypr mo mb := by
  have D := ay_dec (show a < 1000 by omega) (show t < 128 by omega) hs
  have n127 : ¬ nI t = 127 := ay_nIne (b := 127) (by omega) (by omega) (by omega)
  refine br_t rfl (nm_r (nI_pred q) (And.intro (vp_in_nI hq (by decide)) (And.intro (by decide) (And.intro (by decide) (nm_r (e' := nI t) (by rw [nI_clamp (by omega), h1]; exact D.2.1) (And.intro (vp_in_nI hq (by decide)) (And.intro (by decide) (nm_r (e' := nI a) (by rw [nI_clamp (by omega), h1]; exact D.2.2) (br_t (nI_le (b := 125) (by omega) (by decide)) (And.intro (vp_in_nI ha (by decide)) ?_))))))))))
  rcases h01 with z | z
  · exact br_t (by rw [nI_clamp (by omega)]; exact z) (br_f n127 (And.intro (vp_in_nI ha (by decide)) (nm_r (e' := ed) (by rw [nI_clamp (by omega), ay_n0, ← z]; exact ed_self ed a) (br_f n127 hp))))
  · exact br_f (by rw [nI_clamp (by omega), z]; decide) (And.intro (vp_in_nI ha (by decide)) (nm_r (e' := ed) (by rw [nI_clamp (by omega), ay_n1, ← z]; exact ed_self ed a) (br_f n127 hp)))
theorem ry_m (post : SY → Prop) {q a m g n : Nat} {x1 y z4 : Int32} (hq : q < 2200) (ha : a < 202) (hm : m ≤ 1) (h1 : wa q = nI (1024 * a + 8 * (126 + m) + 0)) (h01 : ed a = 0 ∨ ed a = 1) (hy : (m = 1 ∧ y = 1) ∨ (m = 0 ∧ y = ed a)) (hz : (m = 1 ∧ nI a = x1 ∧ z4 = 1) ∨ (¬ (m = 1 ∧ nI a = x1) ∧ z4 = 0)) (hp : wY_leave_55 post x1 x yc yt ys ym no nb ya yv yo yk yp ye n z4 (nI q) (nI g) ycp ycf ymt kd ytk ytp ysk yoc yof ybt ybp sv vr ow (upd ed a y) wa yh vl ypr mo mb) : wY_leave_55 post x1 x yc yt ys ym no nb ya yv yo yk yp ye (n + 1) 0 (nI (q + 1)) (nI (g + 1)) ycp ycf ymt kd ytk ytp ysk yoc yof ybt ybp sv vr ow ed wa yh vl ypr mo mb := by
  have D := ay_dec (show a < 1000 by omega) (show 126 + m < 128 by omega) (show 0 < 8 by omega)
  refine br_t rfl (nm_r (nI_pred q) (And.intro (vp_in_nI hq (by decide)) (And.intro (by decide) (And.intro (by decide) (nm_r (e' := nI (126 + m)) (by rw [nI_clamp (by omega), h1]; exact D.2.1) (And.intro (vp_in_nI hq (by decide)) (And.intro (by decide) (nm_r (e' := nI a) (by rw [nI_clamp (by omega), h1]; exact D.2.2) (br_f (nI_ge (a := 125) (by omega) (by omega)) ?_)))))))))
  rw [nI_pred]
  refine And.intro (vp_in_nI ha (by decide)) ?_
  have fin : ∀ w : Int32, vp_nar .boolean w = y → wY_leave_155 post (wY_leave_55 post x1 x yc yt ys ym no nb ya yv yo yk yp ye n) x1 x (nI (126 + m)) (nI a) w (nI a) yc yt ys ym no nb ya (nI q) yv (nI g) yo yk yp ye ycp ycf ymt kd ytk ytp ysk yoc yof ybt ybp sv vr ow ed wa yh vl ypr mo mb := by
    intro w hw
    refine And.intro (vp_in_nI ha (by decide)) (nm_r (e' := upd ed a y) (by rw [nI_clamp (by omega), hw]) ?_)
    rcases hz with ⟨rfl, e, rfl⟩ | ⟨e, rfl⟩
    · exact br_t rfl (br_t e hp)
    · by_cases k : m = 1
      · subst k
        exact br_t rfl (br_f (fun z => e ⟨rfl, z⟩) hp)
      · have : m = 0 := by omega
        subst this
        exact br_f (by decide) hp
  rcases h01 with z | z
  · refine br_t (by rw [nI_clamp (by omega)]; exact z) ?_
    rcases hy with ⟨rfl, rfl⟩ | ⟨rfl, rfl⟩
    · exact br_t rfl (fin 1 ay_n1)
    · exact br_f (by decide) (fin 0 (by rw [ay_n0, z]))
  · refine br_f (by rw [nI_clamp (by omega), z]; decide) ?_
    rcases hy with ⟨rfl, rfl⟩ | ⟨rfl, rfl⟩
    · exact fin 1 ay_n1
    · exact fin 1 (by rw [ay_n1, z])
theorem ry_x (post : SY → Prop) {q h n : Nat} (hq : q < 2200) (hb : b < 202) (hh : h < 2200) (h1 : yh q = nI h) (hp : post (yc, yt, ys, ym, no, nb, ya, nI q, nI (h + 1), yu, yo, yk, yp, ye, ycp, ycf, ymt, kd, ytk, ytp, ysk, yoc, yof, ybt, ybp, sv, vr, ow, upd ed b 1, wa, yh, vp_updL vl h x, ypr, mo, mb)) : wY_leave_55 post (nI b) x yc yt ys ym no nb ya yv yo yk yp ye (n + 1) 1 (nI q) yu ycp ycf ymt kd ytk ytp ysk yoc yof ybt ybp sv vr ow ed wa yh vl ypr mo mb :=
  br_f (by decide) (And.intro (vp_in_nI hb (by decide)) (nm_r (e' := upd ed b 1) (by rw [nI_clamp (by omega), ay_n1]) (And.intro (vp_in_nI hq (by decide)) (nm_r (e' := nI h) (by rw [nI_clamp (by omega)]; exact h1) (ay_hold _ hh hp)))))
theorem kl_dl {k : Nat} (h : pg_v k) : kl_d k ≤ 3 := by
  have := pg_fpl h
  unfold kl_d
  split <;> omega
theorem rt_y (P : pg_P NC NT cp cf mt op tk tp fp kd KN PN SZ) (hA : A ≤ 201) (hA1 : 1 ≤ A) (hb : b < A) : ∀ (K : List (Bool × Nat × Nat)), kl_S NT A R KN SZ fa fw fv wt wd wv wa yh vl K → ∀ ed : Nat → Int32, (∀ a, a < A → ed a = kl_ay K a) → 1 ≤ kl_L b K → kl_Q KN K ≤ 2200 → kl_Y KN K < 2200 → ∃ ed' : Nat → Int32, (∀ a, a < A → ed' a = kl_ay (kl_U b K) a) ∧ ∀ (post : SY → Prop) (m : Nat), kl_Q KN K + 1 < m → post (yc, yt, ys, ym, no, nb, ya, nI (kl_Q KN (kl_U b K)), nI (kl_Y KN (kl_U b K) + 1), nI (kl_F (kl_U b K)), yo, yk, yp, ye, ycp, ycf, ymt, kd, ytk, ytp, ysk, yoc, yof, ybt, ybp, sv, vr, ow, ed', wa, yh, vp_updL vl (kl_Y KN (kl_U b K)) x, ypr, mo, mb) → wY_leave_55 post (nI b) x yc yt ys ym no nb ya yv yo yk yp ye m 0 (nI (kl_Q KN K)) (nI (kl_F K)) ycp ycf ymt kd ytk ytp ysk yoc yof ybt ybp sv vr ow ed wa yh vl ypr mo mb
  | [], _, _, _, h, _, _ => absurd h (by show ¬ 1 ≤ 0; omega)
  | (true, t, d) :: K, S, ed, AF, h, hQ, hY => by
    obtain ⟨⟨s1, s2, s3, s4⟩, s5, s6, s7, s8, S⟩ := S
    have T := P.2.2.2 t s1
    have dl := kl_dl T.1
    have nt := P.2.1
    have aA := kl_Ab hA1 S
    have eQ : kl_Q KN ((true, t, d) :: K) = kl_Q KN K + kl_q (KN t) d := rfl
    have eY : kl_Y KN ((true, t, d) :: K) = kl_Y KN K + kl_ny (KN t) d := rfl
    obtain ⟨ed', A2, hx⟩ := rt_y P hA hA1 hb K S ed AF h (by omega) (by omega)
    refine ⟨ed', A2, fun post m hm hp => ?_⟩
    by_cases z : KN t = 25 ∧ d = 2
    · have q0 : kl_q (KN t) d = 0 := if_pos z
      rw [eQ, q0] at hm ⊢
      exact hx post m hm hp
    · have q1 : kl_q (KN t) d = 1 := if_neg z
      rw [eQ, q1] at hm ⊢
      rw [eQ, q1] at hQ
      obtain ⟨m, rfl⟩ : ∃ k', m = k' + 1 := ⟨m - 1, by omega⟩
      exact ry_e post (by omega) (by omega) (by omega) (by omega) (s7 z) (by rw [AF _ aA]; exact kl_ed _) (hx post m (by omega) hp)
  | (false, a, m) :: K, S, ed, AF, h, hQ, hY => by
    have hF := kl_Fb S
    obtain ⟨⟨s1, s2, s3, s4, s5⟩, s6, s7, s8, s9, s10, S⟩ := S
    have eQ : kl_Q KN ((false, a, m) :: K) = kl_Q KN K + 1 := rfl
    have eF : kl_F ((false, a, m) :: K) = kl_F K + 1 := rfl
    have eY : kl_Y KN ((false, a, m) :: K) = kl_Y KN K := rfl
    rw [eQ] at hQ ⊢
    rw [eY] at hY
    rw [eF]
    have f1 := AF a s1
    have e01 : ed a = 0 ∨ ed a = 1 := by rw [f1]; exact kl_ed _
    by_cases e : a = b ∧ m = 1
    · obtain ⟨rfl, rfl⟩ := e
      obtain ⟨a1, l0⟩ := s3 rfl
      rw [kl_Uf]
      refine ⟨upd (upd ed a 1) a 1, ?_, fun post k hk hp => ?_⟩
      · intro a' ha'
        by_cases e : a' = a
        · subst e
          rw [pk_us]
          exact (kl_a0 a1 l0).2.symm
        · rw [pk_un e, pk_un e]
          exact (AF a' ha').trans (kl_ae (kl_Ln (a := a) (b := a') (m := 1) (Or.inl (fun z => e z.symm)) K)).2
      · obtain ⟨k, rfl⟩ : ∃ k', k = k' + 2 := ⟨k - 2, by omega⟩
        exact ry_m post (by omega) (by omega) s2 s9 e01 (Or.inl ⟨rfl, rfl⟩) (Or.inl ⟨rfl, rfl, rfl⟩) (ry_x post (by omega) (by omega) hY s10 hp)
    · have e' : a ≠ b ∨ m ≠ 1 := by omega
      rw [kl_Ln e'] at h
      rw [kl_Un e']
      have hz : ¬ (m = 1 ∧ nI a = nI b) := fun z => e ⟨(nI_eq (by omega) (by omega)).mp z.2, z.1⟩
      by_cases hm1 : m = 1
      · subst hm1
        obtain ⟨a1, l0⟩ := s3 rfl
        obtain ⟨ed', A2, hx⟩ := rt_y P hA hA1 hb K S (upd ed a 1) (by
          intro a' ha'
          by_cases e : a' = a
          · subst e
            rw [pk_us]
            exact (kl_a0 a1 l0).2.symm
          · rw [pk_un e]
            exact (AF a' ha').trans (kl_ae (kl_Ln (a := a) (b := a') (m := 1) (Or.inl (fun z => e z.symm)) K)).2) h (by omega) hY
        refine ⟨ed', A2, fun post k hk hp => ?_⟩
        obtain ⟨k, rfl⟩ : ∃ k', k = k' + 1 := ⟨k - 1, by omega⟩
        exact ry_m post (by omega) (by omega) s2 s9 e01 (Or.inl ⟨rfl, rfl⟩) (Or.inr ⟨hz, rfl⟩) (hx post k (by omega) hp)
      · have hm0 : m = 0 := by omega
        subst hm0
        obtain ⟨ed', A2, hx⟩ := rt_y P hA hA1 hb K S ed (fun a' ha' => (AF a' ha').trans (kl_ae (kl_Ln (a := a) (b := a') (m := 0) (Or.inr (by omega)) K)).2) h (by omega) hY
        refine ⟨ed', A2, fun post k hk hp => ?_⟩
        obtain ⟨k, rfl⟩ : ∃ k', k = k' + 1 := ⟨k - 1, by omega⟩
        exact ry_m post (by omega) (by omega) s2 s9 e01 (Or.inr ⟨rfl, rfl⟩) (Or.inr ⟨hz, rfl⟩) (by rw [ed_self]; exact hx post k (by omega) hp)
theorem ry_0 (post : SY → Prop) {q : Nat} (hq : q < 2200) (hp : post (yc, yt, ys, ym, no, nb, ya, yw, nI q, yu, yo, yk, yp, 0, ycp, ycf, ymt, kd, ytk, ytp, ysk, yoc, yof, ybt, ybp, sv, vr, ow, ed, wa, yh, vp_updL vl 0 (vl q), ypr, mo, mb)) : wpY_leave post (yc, yt, ys, ym, no, nb, ya, yw, nI (q + 1), yu, yo, yk, yp, ye, ycp, ycf, ymt, kd, ytk, ytp, ysk, yoc, yof, ybt, ybp, sv, vr, ow, ed, wa, yh, vl, ypr, mo, mb) (nI 0) :=
  nm_r (nI_pred q) (And.intro (vp_in_nI hq (by decide)) (nm_r (e' := vl q) (by rw [nI_clamp (by omega)]) (br_t rfl (nm_e hp))))
theorem ry_s (post : SY → Prop) {q a : Nat} (hq : q < 2200) (ha : a < 202) (h0 : 1 ≤ a) (h1 : ed a = 1) (hp : post (yc, yt, ys, ym, no, nb, ya, yw, nI q, yu, yo, yk, yp, 1, ycp, ycf, ymt, kd, ytk, ytp, ysk, yoc, yof, ybt, ybp, sv, vr, ow, ed, wa, yh, vl, ypr, mo, mb)) : wpY_leave post (yc, yt, ys, ym, no, nb, ya, yw, nI (q + 1), yu, yo, yk, yp, ye, ycp, ycf, ymt, kd, ytk, ytp, ysk, yoc, yof, ybt, ybp, sv, vr, ow, ed, wa, yh, vl, ypr, mo, mb) (nI a) :=
  nm_r (nI_pred q) (And.intro (vp_in_nI hq (by decide)) (nm_r (e' := vl q) (by rw [nI_clamp (by omega)]) (br_f (nI_ne0 (by omega) (by omega)) (And.intro (vp_in_nI ha (by decide)) (br_f (by rw [nI_clamp (by omega), h1]; decide) hp)))))
theorem ry_f (post : SY → Prop) {q a m : Nat} (hq : q < 2200) (ha : a < 202) (h0 : 1 ≤ a) (h1 : ed a = 0) (hp : wY_leave_55 post (nI a) (vl q) yc yt ys ym no nb ya (nI q) yo yk yp ye m 0 yw yu ycp ycf ymt kd ytk ytp ysk yoc yof ybt ybp sv vr ow ed wa yh vl ypr mo mb) : wpY_leave post (yc, yt, ys, ym, no, nb, ya, yw, nI (q + 1), yu, yo, yk, yp, ye, ycp, ycf, ymt, kd, ytk, ytp, ysk, yoc, yof, ybt, ybp, sv, vr, ow, ed, wa, yh, vl, ypr, mo, mb) (nI a) :=
  nm_r (nI_pred q) (And.intro (vp_in_nI hq (by decide)) (nm_r (e' := vl q) (by rw [nI_clamp (by omega)]) (br_f (nI_ne0 (by omega) (by omega)) (And.intro (vp_in_nI ha (by decide)) (br_t (by rw [nI_clamp (by omega), h1]) (Exists.intro m hp))))))
end
end
section
section
variable {NC NT : Nat} {ns mn : Int32} {cp cf mt op tk tp fp sk kd py : Nat → Int32} {KN PN SZ : Nat → Nat}
variable {N A T Pc D : Nat} {ob : Nat → Bool} {K : List (Bool × Nat × Nat)} {rs : Int64} {oc bt ba rd ac af fa fw fv wt wd pr mc : Nat → Int32} {of sl wv : Nat → Int64} {yoc ybt ybp ow ed wa yh mo mb : Nat → Int32} {yof sv vr vl : Nat → Int64}
variable {μ t : Nat}
theorem op_15 (r : (rl_R NC NT N A T Pc D ob K cp cf mt op tk tp fp kd KN PN SZ oc of bt ba sl ac af fa fw fv wt wd wv mc yoc yof ybt ybp sv vr ow ed wa yh vl)) (E : en_F NT K KN SZ t 1 wt wd wa) (hk : KN t = 15) (hv : vb_R ob N (wv (kl_X KN K)) (vl (kl_Y KN K))) (hm : 802 * (200 - T) + kl_C KN PN SZ K + 1 < μ) : nx_S NC NT ns mn cp cf mt op tk tp fp sk kd py KN PN SZ μ (nI NC, nI NT, ns, mn, nI N, nI A, nI (kl_F K), nI (kl_W K + 1), nI (kl_X KN K + 1), -1, rs, nI Pc, nI T, nI D, cp, cf, mt, op, tk, tp, fp, sk, oc, of, bt, ba, rd, sl, ac, af, fa, fw, fv, wt, wd, wv, pr, mc) (nI NC, nI NT, ns, mn, nI (cu_O ob N), nI (N - cu_O ob N), nI A, nI (kl_Q KN K + 1), nI (kl_Y KN K + 1), nI (kl_F K), nI D, nI T, nI Pc, -4, cp, cf, mt, kd, tk, tp, sk, yoc, yof, ybt, ybp, sv, vr, ow, ed, wa, yh, vl, pe_P pr py Pc, mo, mb) := by
  obtain ⟨⟨n1, n2, n3, n4, n5⟩, ⟨n6, n7, n8, n9, n10, n11⟩, ⟨n12, n13, n14, n15, n16⟩, b, nb1, nb2⟩ := rl_n r
  obtain ⟨⟨e1, e2⟩, e3, e4, e5⟩ := E
  have Z := rl_sz r e1
  obtain ⟨v1, v2, v3, v4, v5, v6, v7⟩ := rl_tm r e1
  rw [hk] at v2 v3 v4 v5 v6 Z
  obtain ⟨P0, H, ⟨S, F0, AF⟩, B⟩ := r
  have r : (rl_R NC NT N A T Pc D ob K cp cf mt op tk tp fp kd KN PN SZ oc of bt ba sl ac af fa fw fv wt wd wv mc yoc yof ybt ybp sv vr ow ed wa yh vl) := ⟨P0, H, ⟨S, F0, AF⟩, B⟩
  obtain ⟨f1, f2⟩ := AF _ n7
  by_cases ha : kl_A K = 0
  · obtain ⟨af', hx⟩ := rt_x0 (q := 0) (nc := nI NC) (nt := nI NT) (ns := ns) (mn := mn) (n := nI N) (na := nI A) (ws := nI 0) (pc := nI Pc) (tc := nI T) (dc := nI D) (op := op) (tk := tk) (tp := tp) (fp := fp) (sk := sk) (oc := oc) (of := of) (bt := bt) (ba := ba) (rd := rd) (sl := sl) (ac := ac) (fa := fa) (fw := fw) (fv := fv) (wt := wt) (wd := wd) (wv := vp_updL wv 0 (wv (kl_X KN K))) (pr := pr) (mc := mc) (cp := cp) (cf := cf) (mt := mt) (wv0 := wv) (rs := rs) (en := -1) n8 (by omega) K S af
    have ya : ∀ P : SY → Prop, P (nI NC, nI NT, ns, mn, nI (cu_O ob N), nI (N - cu_O ob N), nI A, nI (kl_Q KN K), nI (kl_Y KN K), nI (kl_F K), nI D, nI T, nI Pc, 0, cp, cf, mt, kd, tk, tp, sk, yoc, yof, ybt, ybp, sv, vr, ow, ed, wa, yh, vp_updL vl 0 (vl (kl_Y KN K)), pe_P pr py Pc, mo, mb) → wpY_leave P (nI NC, nI NT, ns, mn, nI (cu_O ob N), nI (N - cu_O ob N), nI A, nI (kl_Q KN K), nI (kl_Y KN K + 1), nI (kl_F K), nI D, nI T, nI Pc, -4, cp, cf, mt, kd, tk, tp, sk, yoc, yof, ybt, ybp, sv, vr, ow, ed, wa, yh, vl, pe_P pr py Pc, mo, mb) (nI (kl_A K)) := fun P hP => by rw [ha]; exact ry_0 P (by omega) hP
    refine nx_UF r ⟨⟨e1, e2⟩, e3, e4, e5⟩ (by rw [hk]; decide) (by omega) (fun P hP => ax_fin_12 P (by omega) Z.2.2 e3 v3 (rt_xf P (k := 0) (w := 0) (v := 0) (by omega) (by omega) (by omega) (by omega) (by omega) n6 (by rw [f1]; exact (kl_az ha).1) F0.2.1 F0.2.2 (hx P (kl_F K + 2) (by omega) hP))) (fun P hP => ay_step_1 (s := 1) _ (by omega) (by omega) Z.2.2 (by omega) (by omega) e5 v2 (by decide) (ay_f1_15 P Z.2.2 v2 (by omega) (ya P hP))) (by omega) ?_
    exact ⟨N, A, T, Pc, D, ob, nI A, nI 0, nI 0, nI 0, 0, nI A, _, _, _, vp_updL wv 0 (wv (kl_X KN K)) 0, oc, bt, ba, rd, ac, af', fa, fw, fv, wt, wd, pr, mc, of, sl, vp_updL wv 0 (wv (kl_X KN K)), yoc, ybt, ybp, ow, ed, wa, yh, mo, mb, yof, sv, vr, vp_updL vl 0 (vl (kl_Y KN K)), rfl, rfl, Or.inl rfl, ⟨n9, n14⟩, B.2.2, fun _ => ⟨rfl, n8, H, by rw [pk_uLs, pk_uLs]; exact hv⟩⟩
  · by_cases hl : kl_L (kl_A K) K = 0
    · have q := kl_a0 (by omega) hl
      exact nx_UF r ⟨⟨e1, e2⟩, e3, e4, e5⟩ (by rw [hk]; decide) (by omega) (fun P hP => ax_fin_12 P (by omega) Z.2.2 e3 v3 (rt_xs P (by omega) (by omega) (by omega) n6 (f1.trans q.1) hP)) (fun P hP => ay_step_1 (s := 1) _ (by omega) (by omega) Z.2.2 (by omega) (by omega) e5 v2 (by decide) (ay_f1_15 P Z.2.2 v2 (by omega) (ry_s P (by omega) (by omega) (by omega) (f2.trans q.2) hP))) (by omega) (fr_n r (Or.inl rfl))
    · have hl1 : 1 ≤ kl_L (kl_A K) K := by omega
      have lb := kl_Lb (kl_A K) K
      obtain ⟨g, eg⟩ : ∃ g, kl_L (kl_A K) K = g + 1 := ⟨kl_L (kl_A K) K - 1, by omega⟩
      have q := kl_a1 (by omega) eg
      rw [← eg] at q
      obtain ⟨u1, u2, u3, u4, u5, u6, u7, u8⟩ := kl_SU (PN := PN) S hl1
      obtain ⟨af', AX, hx⟩ := rt_x (nc := nI NC) (nt := nI NT) (ns := ns) (mn := mn) (n := nI N) (na := nI A) (ws := nI (kl_W (kl_U (kl_A K) K))) (vs := nI (kl_X KN (kl_U (kl_A K) K) + 1)) (en := -1) (rs := rs) (pc := nI Pc) (tc := nI T) (dc := nI D) (op := op) (tk := tk) (tp := tp) (fp := fp) (sk := sk) (oc := oc) (of := of) (bt := bt) (ba := ba) (rd := rd) (sl := sl) (ac := ac) (fa := fa) (fw := fw) (fv := fv) (wt := wt) (wd := wd) (wv := vp_updL wv (kl_X KN (kl_U (kl_A K) K)) (wv (kl_X KN K))) (pr := pr) (mc := mc) (cp := cp) (cf := cf) (mt := mt) (wv0 := wv) n8 K S af (fun a h => (AF a h).1) hl1
      obtain ⟨ed', AY, hy⟩ := rt_y (yc := nI NC) (yt := nI NT) (ys := ns) (ym := mn) (no := nI (cu_O ob N)) (nb := nI (N - cu_O ob N)) (ya := nI A) (yv := nI (kl_Y KN K)) (yo := nI D) (yk := nI T) (yp := nI Pc) (ye := -4) (ycf := cf) (ymt := mt) (kd := kd) (ytk := tk) (ytp := tp) (ysk := sk) (yoc := yoc) (yof := yof) (ybt := ybt) (ybp := ybp) (sv := sv) (vr := vr) (ow := ow) (wa := wa) (yh := yh) (vl := vl) (ypr := pe_P pr py Pc) (mo := mo) (mb := mb) (ycp := cp) (x := vl (kl_Y KN K)) P0 n8 B.1.1 n7 K S ed (fun a h => (AF a h).2) hl1 (by omega) (by omega)
      refine nx_U r ⟨⟨e1, e2⟩, e3, e4, e5⟩ (by rw [hk]; decide) (by omega) (fun P hP => ax_fin_12 P (by omega) Z.2.2 e3 v3 (rt_xf P (by omega) (by omega) (by omega) (by omega) (by omega) n6 (f1.trans q.1) u3 u4 (hx P (kl_F K + 2) (by omega) hP))) (fun P hP => ay_step_1 (s := 1) _ (by omega) (by omega) Z.2.2 (by omega) (by omega) e5 v2 (by decide) (ay_f1_15 P Z.2.2 v2 (by omega) (ry_f P (by omega) (by omega) (by omega) (f2.trans q.2) (hy P (kl_Q KN K + 2) (by omega) hP)))) (μ' := 802 * (200 - T) + kl_C KN PN SZ (kl_U (kl_A K) K) + 1) (by omega) (cf_Vi (K := kl_U (kl_A K) K) (wv := vp_updL wv (kl_X KN (kl_U (kl_A K) K)) (wv (kl_X KN K))) (vl := vp_updL vl (kl_Y KN (kl_U (kl_A K) K)) (vl (kl_Y KN K))) (af := af') (ed := ed') ⟨P0, H, ⟨kl_cg (fun _ _ h => h) (Nat.le_refl _) (fun _ _ => ⟨rfl, rfl⟩) (fun _ _ _ => ⟨rfl, rfl, rfl⟩) (fun i hi => pk_uLn (by omega)) (fun _ _ => ⟨rfl, rfl⟩) (fun i hi => pk_uLn (by omega)) u1, F0, fun a h => ⟨AX a h, AY a h⟩⟩, B.1, ⟨B.2.1.1, by omega, B.2.1.2.2⟩, B.2.2⟩ (by rw [pk_uLs, pk_uLs]; exact hv) (Nat.le_refl _))
/-! every step -/
theorem op_E (r : (rl_R NC NT N A T Pc D ob K cp cf mt op tk tp fp kd KN PN SZ oc of bt ba sl ac af fa fw fv wt wd wv mc yoc yof ybt ybp sv vr ow ed wa yh vl)) (E : en_F NT K KN SZ t 0 wt wd wa) (hm : 802 * (200 - T) + kl_C KN PN SZ K + 4 * SZ t ≤ μ) : nx_S NC NT ns mn cp cf mt op tk tp fp sk kd py KN PN SZ μ (nI NC, nI NT, ns, mn, nI N, nI A, nI (kl_F K), nI (kl_W K + 1), nI (kl_X KN K), -1, rs, nI Pc, nI T, nI D, cp, cf, mt, op, tk, tp, fp, sk, oc, of, bt, ba, rd, sl, ac, af, fa, fw, fv, wt, wd, wv, pr, mc) (nI NC, nI NT, ns, mn, nI (cu_O ob N), nI (N - cu_O ob N), nI A, nI (kl_Q KN K + 1), nI (kl_Y KN K), nI (kl_F K), nI D, nI T, nI Pc, -4, cp, cf, mt, kd, tk, tp, sk, yoc, yof, ybt, ybp, sv, vr, ow, ed, wa, yh, vl, pe_P pr py Pc, mo, mb) := by
  have E' := E
  obtain ⟨⟨e1, e2⟩, e3, e4, e5⟩ := E
  have Z := rl_sz r e1
  have n := rl_n r
  obtain ⟨v1, v2, v3, v4, v5, v6, v7⟩ := rl_tm r e1
  have hm' : 802 * (200 - T) + kl_C KN PN SZ K + 1 < μ := by omega
  by_cases k10 : 10 ≤ KN t
  · by_cases k13 : KN t = 13
    · exact op_13 r E' k13 hm'
    · exact op_p0 r E' rfl k10 k13 hm
  · have kc : KN t = 0 ∨ KN t = 1 ∨ KN t = 2 ∨ KN t = 3 ∨ KN t = 4 ∨ KN t = 5 ∨ KN t = 6 := by unfold pg_v at v1; omega
    rcases kc with hk | hk | hk | hk | hk | hk | hk
    · exact op_0 r E' hk hm'
    · exact op_1 r E' hk hm'
    · exact op_2 r E' hk hm'
    · exact op_3 r E' hk hm'
    · exact op_4 r E' hk hm'
    · exact op_5 r E' hk hm'
    · rw [hk] at v2 v3 v5
      obtain ⟨s, hs, h3, es⟩ := v5.2.2.2.2.1 (Or.inl rfl)
      have hf : pg_fp (KN t) ≤ 0 := by rw [hk]; decide
      have sc : s = 0 ∨ s = 3 := by omega
      rcases sc with rfl | rfl
      · exact op_super (s := 0) r E' (by omega) hf hs es v3 (by omega) (fun P hP => ay_step_E _ (by omega) (by omega) Z.2.2 e5 (ay_bg_6 P Z.2.2 v2 (by rw [es]; exact hP))) (fun j hj => absurd hj (by omega)) hm'
      · exact op_super (s := 3) r E' (by omega) hf hs es v3 (by omega) (fun P hP => ay_step_E _ (by omega) (by omega) Z.2.2 e5 (ay_bg_6 P Z.2.2 v2 (by rw [es]; exact hP))) (fun j hj => absurd hj (by omega)) hm'
theorem op_V1 (r : (rl_R NC NT N A T Pc D ob K cp cf mt op tk tp fp kd KN PN SZ oc of bt ba sl ac af fa fw fv wt wd wv mc yoc yof ybt ybp sv vr ow ed wa yh vl)) (E : en_F NT K KN SZ t 1 wt wd wa) (hk : 10 ≤ KN t ∧ KN t ≤ 18) (h13 : KN t ≠ 13) (hv : vb_R ob N (wv (kl_X KN K)) (vl (kl_Y KN K))) (hm : 802 * (200 - T) + kl_C KN PN SZ K + 1 < μ) : nx_S NC NT ns mn cp cf mt op tk tp fp sk kd py KN PN SZ μ (nI NC, nI NT, ns, mn, nI N, nI A, nI (kl_F K), nI (kl_W K + 1), nI (kl_X KN K + 1), -1, rs, nI Pc, nI T, nI D, cp, cf, mt, op, tk, tp, fp, sk, oc, of, bt, ba, rd, sl, ac, af, fa, fw, fv, wt, wd, wv, pr, mc) (nI NC, nI NT, ns, mn, nI (cu_O ob N), nI (N - cu_O ob N), nI A, nI (kl_Q KN K + 1), nI (kl_Y KN K + 1), nI (kl_F K), nI D, nI T, nI Pc, -4, cp, cf, mt, kd, tk, tp, sk, yoc, yof, ybt, ybp, sv, vr, ow, ed, wa, yh, vl, pe_P pr py Pc, mo, mb) := by
  have E' := E
  obtain ⟨⟨e1, e2⟩, e3, e4, e5⟩ := E
  have Z := rl_sz r e1
  have n := rl_n r
  obtain ⟨v1, v2, v3, v4, v5, v6, v7⟩ := rl_tm r e1
  have hv1 : ∀ j, j < 1 → vb_R ob N (wv (kl_X KN K + j)) (vl (kl_Y KN K + j)) := fun j hj => by
    have : j = 0 := by omega
    subst this
    exact hv
  have kc : KN t = 10 ∨ KN t = 11 ∨ KN t = 12 ∨ KN t = 14 ∨ KN t = 15 ∨ KN t = 16 ∨ KN t = 17 ∨ KN t = 18 := by omega
  rcases kc with hk | hk | hk | hk | hk | hk | hk | hk
  · exact op_10 r E' hk hv hm
  · exact op_11 r E' hk hv hm
  · exact op_12 r E' hk hv hm
  · exact op_14 r E' hk hv hm
  · exact op_15 r E' hk hv hm
  · exact op_16 r E' hk hv hm
  · rw [hk] at v2 v3 v5 Z
    obtain ⟨s, hs, h3, es⟩ := v5.2.2.2.2.1 (Or.inr rfl)
    have hf : pg_fp (KN t) ≤ 1 := by rw [hk]; decide
    have sc : s = 0 ∨ s = 3 := by omega
    rcases sc with rfl | rfl
    · exact op_send (s := 0) r E' (by omega) hf hs es v3 (by omega) (fun P hP => ay_step_1 (s := 1) _ (by omega) (by omega) Z.2.2 (by omega) (by omega) e5 v2 (by decide) (ay_f1_17 P Z.2.2 v2 (by omega) (by rw [es]; exact hP))) (fun j hj => hv1 j (by omega)) hm
    · exact op_send (s := 3) r E' (by omega) hf hs es v3 (by omega) (fun P hP => ay_step_1 (s := 1) _ (by omega) (by omega) Z.2.2 (by omega) (by omega) e5 v2 (by decide) (ay_f1_17 P Z.2.2 v2 (by omega) (by rw [es]; exact hP))) (fun j hj => hv1 j (by omega)) hm
  · rw [hk] at v2 v3 v5 Z
    obtain ⟨s, hs, h3, es⟩ := v5.2.2.2.2.2.1 (Or.inl rfl)
    have hf : pg_fp (KN t) ≤ 1 := by rw [hk]; decide
    have sc : s = 1 ∨ s = 4 := by omega
    rcases sc with rfl | rfl
    · exact op_super (s := 1) r E' (by omega) hf hs es v3 (by omega) (fun P hP => ay_step_1 (s := 1) _ (by omega) (by omega) Z.2.2 (by omega) (by omega) e5 v2 (by decide) (ay_f1_18 P Z.2.2 v2 (by omega) (by rw [es]; exact hP))) (fun j hj => hv1 j (by omega)) hm
    · exact op_super (s := 4) r E' (by omega) hf hs es v3 (by omega) (fun P hP => ay_step_1 (s := 1) _ (by omega) (by omega) Z.2.2 (by omega) (by omega) e5 v2 (by decide) (ay_f1_18 P Z.2.2 v2 (by omega) (by rw [es]; exact hP))) (fun j hj => hv1 j (by omega)) hm
theorem op_V2 (r : (rl_R NC NT N A T Pc D ob K cp cf mt op tk tp fp kd KN PN SZ oc of bt ba sl ac af fa fw fv wt wd wv mc yoc yof ybt ybp sv vr ow ed wa yh vl)) (E : en_F NT K KN SZ t 2 wt wd wa) (hk : 20 ≤ KN t ∧ KN t ≤ 29) (h5 : KN t ≠ 25) (h6 : KN t ≠ 26) (hv : vb_R ob N (wv (kl_X KN K)) (vl (kl_Y KN K))) (hw : vb_R ob N (wv (kl_X KN K + 1)) (vl (kl_Y KN K + 1))) (hm : 802 * (200 - T) + kl_C KN PN SZ K + 1 < μ) : nx_S NC NT ns mn cp cf mt op tk tp fp sk kd py KN PN SZ μ (nI NC, nI NT, ns, mn, nI N, nI A, nI (kl_F K), nI (kl_W K + 1), nI (kl_X KN K + 2), -1, rs, nI Pc, nI T, nI D, cp, cf, mt, op, tk, tp, fp, sk, oc, of, bt, ba, rd, sl, ac, af, fa, fw, fv, wt, wd, wv, pr, mc) (nI NC, nI NT, ns, mn, nI (cu_O ob N), nI (N - cu_O ob N), nI A, nI (kl_Q KN K + 1), nI (kl_Y KN K + 2), nI (kl_F K), nI D, nI T, nI Pc, -4, cp, cf, mt, kd, tk, tp, sk, yoc, yof, ybt, ybp, sv, vr, ow, ed, wa, yh, vl, pe_P pr py Pc, mo, mb) := by
  have E' := E
  obtain ⟨⟨e1, e2⟩, e3, e4, e5⟩ := E
  have Z := rl_sz r e1
  have n := rl_n r
  obtain ⟨v1, v2, v3, v4, v5, v6, v7⟩ := rl_tm r e1
  have hv2 : ∀ j, j < 2 → vb_R ob N (wv (kl_X KN K + j)) (vl (kl_Y KN K + j)) := fun j hj => by
    have : j = 0 ∨ j = 1 := by omega
    rcases this with rfl | rfl
    · exact hv
    · exact hw
  have kc : KN t = 20 ∨ KN t = 21 ∨ KN t = 22 ∨ KN t = 23 ∨ KN t = 24 ∨ KN t = 27 ∨ KN t = 28 ∨ KN t = 29 := by omega
  rcases kc with hk | hk | hk | hk | hk | hk | hk | hk
  · exact op_20 r E' hk hv hw hm
  · exact op_21 r E' hk hv hw hm
  · exact op_22 r E' hk hv hw hm
  · exact op_23 r E' hk hv hw hm
  · exact op_24 r E' hk hv hw hm
  · exact op_27 r E' hk hv hw hm
  · rw [hk] at v2 v3 v5 Z
    obtain ⟨s, hs, h3, es⟩ := v5.2.2.2.2.2.1 (Or.inr rfl)
    have hf : pg_fp (KN t) ≤ 2 := by rw [hk]; decide
    have sc : s = 1 ∨ s = 4 := by omega
    rcases sc with rfl | rfl
    · exact op_send (s := 1) r E' (by omega) hf hs es v3 (by omega) (fun P hP => ay_step_2 (s := 2) _ (by omega) (by omega) Z.2.2 (by omega) (by omega) e5 v2 (by decide) (by decide) (ay_t_28 P Z.2.2 v2 (by rw [es]; exact hP))) (fun j hj => hv2 j (by omega)) hm
    · exact op_send (s := 4) r E' (by omega) hf hs es v3 (by omega) (fun P hP => ay_step_2 (s := 2) _ (by omega) (by omega) Z.2.2 (by omega) (by omega) e5 v2 (by decide) (by decide) (ay_t_28 P Z.2.2 v2 (by rw [es]; exact hP))) (fun j hj => hv2 j (by omega)) hm
  · rw [hk] at v2 v3 v5 Z
    obtain ⟨s, hs, h3, es⟩ := v5.2.2.2.2.2.2 (Or.inl rfl)
    have hf : pg_fp (KN t) ≤ 2 := by rw [hk]; decide
    have sc : s = 2 ∨ s = 5 := by omega
    rcases sc with rfl | rfl
    · exact op_super (s := 2) r E' (by omega) hf hs es v3 (by omega) (fun P hP => ay_step_2 (s := 2) _ (by omega) (by omega) Z.2.2 (by omega) (by omega) e5 v2 (by decide) (by decide) (ay_t_29 P Z.2.2 v2 (by rw [es]; exact hP))) (fun j hj => hv2 j (by omega)) hm
    · exact op_super (s := 5) r E' (by omega) hf hs es v3 (by omega) (fun P hP => ay_step_2 (s := 2) _ (by omega) (by omega) Z.2.2 (by omega) (by omega) e5 v2 (by decide) (by decide) (ay_t_29 P Z.2.2 v2 (by rw [es]; exact hP))) (fun j hj => hv2 j (by omega)) hm
theorem op_V3 (r : (rl_R NC NT N A T Pc D ob K cp cf mt op tk tp fp kd KN PN SZ oc of bt ba sl ac af fa fw fv wt wd wv mc yoc yof ybt ybp sv vr ow ed wa yh vl)) (E : en_F NT K KN SZ t 3 wt wd wa) (hk : KN t = 31) (hv : vb_R ob N (wv (kl_X KN K)) (vl (kl_Y KN K))) (hw : vb_R ob N (wv (kl_X KN K + 1)) (vl (kl_Y KN K + 1))) (hx : vb_R ob N (wv (kl_X KN K + 2)) (vl (kl_Y KN K + 2))) (hm : 802 * (200 - T) + kl_C KN PN SZ K + 1 < μ) : nx_S NC NT ns mn cp cf mt op tk tp fp sk kd py KN PN SZ μ (nI NC, nI NT, ns, mn, nI N, nI A, nI (kl_F K), nI (kl_W K + 1), nI (kl_X KN K + 3), -1, rs, nI Pc, nI T, nI D, cp, cf, mt, op, tk, tp, fp, sk, oc, of, bt, ba, rd, sl, ac, af, fa, fw, fv, wt, wd, wv, pr, mc) (nI NC, nI NT, ns, mn, nI (cu_O ob N), nI (N - cu_O ob N), nI A, nI (kl_Q KN K + 1), nI (kl_Y KN K + 3), nI (kl_F K), nI D, nI T, nI Pc, -4, cp, cf, mt, kd, tk, tp, sk, yoc, yof, ybt, ybp, sv, vr, ow, ed, wa, yh, vl, pe_P pr py Pc, mo, mb) := by
  have E' := E
  obtain ⟨⟨e1, e2⟩, e3, e4, e5⟩ := E
  have Z := rl_sz r e1
  have n := rl_n r
  obtain ⟨v1, v2, v3, v4, v5, v6, v7⟩ := rl_tm r e1
  have hv2 : ∀ j, j < 3 → vb_R ob N (wv (kl_X KN K + j)) (vl (kl_Y KN K + j)) := fun j hj => by
    have : j = 0 ∨ j = 1 ∨ j = 2 := by omega
    rcases this with rfl | rfl | rfl
    · exact hv
    · exact hw
    · exact hx
  rw [hk] at v2 v3 v5 Z
  obtain ⟨s, hs, h3, es⟩ := v5.2.2.2.2.2.2 (Or.inr rfl)
  have hf : pg_fp (KN t) ≤ 3 := by rw [hk]; decide
  have sc : s = 2 ∨ s = 5 := by omega
  rcases sc with rfl | rfl
  · exact op_send (s := 2) r E' (by omega) hf hs es v3 (by omega) (fun P hP => ay_step_3 (s := 3) _ (by omega) (by omega) Z.2.2 (by omega) (by omega) e5 v2 (by decide) (by decide) (ay_h_31 P Z.2.2 v2 (by rw [es]; exact hP))) (fun j hj => hv2 j (by omega)) hm
  · exact op_send (s := 5) r E' (by omega) hf hs es v3 (by omega) (fun P hP => ay_step_3 (s := 3) _ (by omega) (by omega) Z.2.2 (by omega) (by omega) e5 v2 (by decide) (by decide) (ay_h_31 P Z.2.2 v2 (by rw [es]; exact hP))) (fun j hj => hv2 j (by omega)) hm
theorem op_V {d : Nat} (r0 : (rl_R NC NT N A T Pc D ob ((true, t, d) :: K) cp cf mt op tk tp fp kd KN PN SZ oc of bt ba sl ac af fa fw fv wt wd wv mc yoc yof ybt ybp sv vr ow ed wa yh vl)) (hv : vb_R ob N (wv (kl_X KN ((true, t, d) :: K))) (vl (kl_Y KN ((true, t, d) :: K)))) (hm : 802 * (200 - T) + kl_C KN PN SZ ((true, t, d) :: K) + 1 ≤ μ) : nx_S NC NT ns mn cp cf mt op tk tp fp sk kd py KN PN SZ μ (nI NC, nI NT, ns, mn, nI N, nI A, nI (kl_F ((true, t, d) :: K)), nI (kl_W ((true, t, d) :: K)), nI (kl_X KN ((true, t, d) :: K) + 1), -1, rs, nI Pc, nI T, nI D, cp, cf, mt, op, tk, tp, fp, sk, oc, of, bt, ba, rd, sl, ac, af, fa, fw, fv, wt, wd, wv, pr, mc) (nI NC, nI NT, ns, mn, nI (cu_O ob N), nI (N - cu_O ob N), nI A, nI (kl_Q KN ((true, t, d) :: K)), nI (kl_Y KN ((true, t, d) :: K) + 1), nI (kl_F ((true, t, d) :: K)), nI D, nI T, nI Pc, -4, cp, cf, mt, kd, tk, tp, sk, yoc, yof, ybt, ybp, sv, vr, ow, ed, wa, yh, vl, pe_P pr py Pc, mo, mb) := by
  obtain ⟨r, h0, ⟨hd1, hd2⟩, h1, h2, h3, h4⟩ := rl_tl r0
  clear r0
  have T0 := rl_tm r h0.1
  have v1 := T0.1
  have dl := kl_dl v1
  have hm' : 802 * (200 - T) + (kl_C KN PN SZ K + pg_co KN PN SZ t d) + 1 ≤ μ := hm
  have X1 : kl_X KN ((true, t, d) :: K) = kl_X KN K + kl_nx (KN t) d := rfl
  have Y1 : kl_Y KN ((true, t, d) :: K) = kl_Y KN K + kl_ny (KN t) d := rfl
  have Q1 : kl_Q KN ((true, t, d) :: K) = kl_Q KN K + kl_q (KN t) d := rfl
  have dk : d ≤ KN t / 10 := by
    have l := pg_fpl v1
    unfold kl_d at hd2
    split at hd2 <;> omega
  have c1 := pg_c1 r h0.1 dk
  have hmm : 802 * (200 - T) + kl_C KN PN SZ K + 1 < μ := by omega
  have k13 : KN t ≠ 13 := fun z => by
    rw [z] at hd2
    exact absurd hd2 (by have : kl_d 13 = 0 := rfl
                         omega)
  have k30 : KN t = 30 → d = 1 := fun z => by
    rw [z] at hd2
    have : kl_d 30 = 1 := rfl
    omega
  have kv : (10 ≤ KN t ∧ KN t ≤ 18) ∨ (20 ≤ KN t ∧ KN t ≤ 31) := by
    unfold pg_v at v1
    omega
  have dc : d = 1 ∨ d = 2 ∨ d = 3 := by omega
  rcases dc with rfl | rfl | rfl
  · have x0 : kl_nx (KN t) 1 = 0 := by unfold kl_nx; split <;> omega
    have y0 : kl_ny (KN t) 1 = 0 := by unfold kl_ny; split <;> omega
    have q0 : kl_q (KN t) 1 = 1 := if_neg (by omega)
    rw [x0, Nat.add_zero] at X1
    rw [y0, Nat.add_zero] at Y1
    rw [q0] at Q1
    rw [X1, Y1] at hv
    rw [X1, Y1, Q1]
    have E : en_F NT K KN SZ t 1 wt wd wa := ⟨h0, h1, h2, h3 (by omega)⟩
    rcases kv with kv | kv
    · exact op_V1 r E kv k13 hv hmm
    · by_cases k6 : KN t = 26
      · exact op_26a r E k6 hv hm'
      · by_cases k5 : KN t = 25
        · exact op_p25 r E k5 hm'
        · by_cases k0 : KN t = 30
          · exact op_30 r E k0 hv hm'
          · by_cases k1 : KN t = 31
            · exact op_p31a r E k1 hv hm'
            · exact op_p1 r E rfl kv.1 (by omega) k5 k6 hv hm'
  · have kv' : 20 ≤ KN t ∧ KN t ≤ 31 := by omega
    by_cases k6 : KN t = 26
    · rw [show kl_nx (KN t) 2 = 0 from if_pos k6, Nat.add_zero] at X1
      rw [show kl_ny (KN t) 2 = 0 from if_pos (Or.inl k6), Nat.add_zero] at Y1
      rw [show kl_q (KN t) 2 = 1 from if_neg (by omega)] at Q1
      rw [X1, Y1, Q1]
      exact op_26b r ⟨h0, h1, h2, h3 (by omega)⟩ k6 hm'
    · by_cases k5 : KN t = 25
      · rw [show kl_nx (KN t) 2 = 1 from if_neg k6] at X1
        rw [show kl_ny (KN t) 2 = 0 from if_pos (Or.inr k5), Nat.add_zero] at Y1
        rw [show kl_q (KN t) 2 = 0 from if_pos ⟨k5, rfl⟩, Nat.add_zero] at Q1
        rw [X1, Y1] at hv
        rw [X1, Y1, Q1]
        exact op_25 r h0 h1 h2 k5 hv hmm
      · rw [show kl_nx (KN t) 2 = 1 from if_neg k6] at X1
        have ny : kl_ny (KN t) 2 = 1 := if_neg (by omega)
        rw [ny] at Y1
        rw [show kl_q (KN t) 2 = 1 from if_neg (by omega)] at Q1
        rw [X1, Y1] at hv
        rw [X1, Y1, Q1]
        have hv0 := h4 0 (by omega)
        have E : en_F NT K KN SZ t 2 wt wd wa := ⟨h0, h1, h2, h3 (by omega)⟩
        by_cases k1 : KN t = 31
        · exact op_p31b r E k1 hv0 hv hm'
        · have k0 : KN t ≠ 30 := fun z => by have := k30 z; omega
          exact op_V2 r E ⟨kv'.1, by omega⟩ k5 k6 hv0 hv hmm
  · have k0 : KN t ≠ 30 := fun z => by have := k30 z; omega
    have k1 : KN t = 31 := by omega
    rw [show kl_nx (KN t) 3 = 2 from if_neg (by omega)] at X1
    have ny : kl_ny (KN t) 3 = 2 := if_neg (by omega)
    rw [ny] at Y1
    rw [show kl_q (KN t) 3 = 1 from if_neg (by omega)] at Q1
    rw [X1, Y1] at hv
    rw [X1, Y1, Q1]
    exact op_V3 r ⟨h0, h1, h2, h3 (by omega)⟩ k1 (h4 0 (by omega)) (h4 1 (by omega)) hv hmm
end
section
variable {NC NT : Nat} {ns mn : Int32} {cp cf mt op tk tp fp sk kd py : Nat → Int32} {KN PN SZ : Nat → Nat}
theorem op_all (μ : Nat) (u : SX) (v : SY) (h : cf_V NC NT ns mn cp cf mt op tk tp fp sk kd py KN PN SZ μ u v ∨ cf_E NC NT ns mn cp cf mt op tk tp fp sk kd py KN PN SZ μ u v) : nx_S NC NT ns mn cp cf mt op tk tp fp sk kd py KN PN SZ μ u v := by
  rcases h with ⟨N, A, T, Pc, D, ob, K, rs, oc, bt, ba, rd, ac, af, fa, fw, fv, wt, wd, pr, mc, of, sl, wv, yoc, ybt, ybp, ow, ed, wa, yh, mo, mb, yof, sv, vr, vl, rfl, rfl, r, hv, hm⟩ | ⟨N, A, T, Pc, D, ob, K, rs, oc, bt, ba, rd, ac, af, fa, fw, fv, wt, wd, pr, mc, of, sl, wv, yoc, ybt, ybp, ow, ed, wa, yh, mo, mb, yof, sv, vr, vl, t, rfl, rfl, r, h0, h1, h2, h3, hm⟩
  · match K, r, hv, hm with
    | [], r, hv, hm => exact op_end r hv (by omega)
    | (true, t, d) :: K, r, hv, hm => exact op_V r hv hm
    | (false, a, m) :: K, r, hv, hm =>
      refine op_fr r hv ?_
      have hm' : 802 * (200 - T) + (kl_C KN PN SZ K + 1) + 1 ≤ μ := hm
      omega
  · exact op_E r ⟨h0, h1, h2, h3⟩ hm
end
end
section
/-! a run from its beginning -/
def um_n (g : Nat → Int32) : Nat → Nat → Int32
  | 0 => g
  | k + 1 => upd (um_n g k) k 0
theorem um_in {g : Nat → Int32} : ∀ {k j : Nat}, j < k → um_n g k j = 0
  | 0, _, h => absurd h (Nat.not_lt_zero _)
  | k + 1, j, h => by
    show upd (um_n g k) k 0 j = 0
    by_cases e : j = k
    · subst e; exact pk_us
    · rw [pk_un e]; exact um_in (by omega)
section
variable {nc nt ns mn n na f ws vs en pc tc dc : Int32} {rs : Int64} {cp cf mt op tk tp fp sk oc bt ba rd ac af fa fw fv wt wd pr mc : Nat → Int32} {of sl wv : Nat → Int64}
theorem pf_x55 (post : SX → Prop) (hp : (mn = -1 → post (nc, nt, ns, mn, n, 1, 0, 0, nI (0 + 1), en, rs, pc, tc, dc, cp, cf, mt, op, tk, tp, fp, sk, oc, of, bt, ba, rd, up_n sl 0 (fun _ => vb_pk 1 0) 7, upd ac 0 (-1), upd af 0 0, upd fa 0 0, upd fw 0 0, upd fv 0 0, wt, wd, vp_updL wv 0 (vb_pk 1 0), pr, mc)) ∧ (¬ mn = -1 → post (nc, nt, ns, mn, n, 1, 0, nI (0 + 1), 0, en, rs, pc, tc, dc, cp, cf, mt, op, tk, tp, fp, sk, oc, of, bt, ba, rd, up_n sl 0 (fun _ => vb_pk 1 0) 7, upd ac 0 (-1), upd af 0 0, upd fa 0 0, upd fw 0 0, upd fv 0 0, upd wt 0 mn, upd wd 0 0, wv, pr, mc))) : ∀ e k : Nat, k + e = 7 → wX_prepare_55 post nc nt ns mn n na f ws vs en rs pc tc dc (e + 1) (nI k) cp cf mt op tk tp fp sk oc of bt ba rd (up_n sl 0 (fun _ => vb_pk 1 0) k) ac af fa fw fv wt wd wv pr mc := by
  intro e
  induction e with
  | zero =>
    intro k h
    have : k = 7 := by omega
    subst this
    refine br_t (by decide) (nm_e (nm_e (nm_e (nm_e (nm_e (br_c (fun z => ?_) (fun z => ?_)))))))
    · rw [vb_nil]
      exact ax_push (q := 0) _ (by omega) (hp.1 z)
    · exact ax_begin (q := 0) _ (by omega) (hp.2 z)
  | succ e ih =>
    intro k h
    exact br_f (nI_ge (b := 7) (by omega) (by decide)) (And.intro (vp_in_nI (by omega) (by decide)) (nm_r (e' := up_n sl 0 (fun _ => vb_pk 1 0) (k + 1)) (by rw [vb_nil, nI_clamp (by omega)]; show _ = vp_updL _ (0 + k) _; rw [Nat.zero_add]) (nm_r (nI_1 k) (ih (k + 1) (by omega)))))
theorem pf_x34 (post : SX → Prop) (hp : wX_prepare_55 post nc nt ns mn n na f ws vs en rs pc tc dc 8 0 cp cf mt op tk tp fp sk oc of bt ba rd sl ac af fa fw fv wt wd wv pr (um_n mc 6)) : ∀ e k : Nat, k + e = 6 → wX_prepare_34 post nc nt ns mn n na f ws vs en rs pc tc dc (e + 1) (nI k) cp cf mt op tk tp fp sk oc of bt ba rd sl ac af fa fw fv wt wd wv pr (um_n mc k) := by
  intro e
  induction e with
  | zero =>
    intro k h
    have : k = 6 := by omega
    subst this
    exact br_t (by decide) (Exists.intro 8 hp)
  | succ e ih =>
    intro k h
    exact br_f (nI_ge (b := 6) (by omega) (by decide)) (And.intro (vp_in_nI (by omega) (by decide)) (nm_r (e' := um_n mc (k + 1)) (by rw [nI_clamp (by omega)]; rfl) (nm_r (nI_1 k) (ih (k + 1) (by omega)))))
theorem pf_x (post : SX → Prop) (hp : (mn = -1 → post (nc, nt, ns, mn, 0, 1, 0, 0, nI (0 + 1), -1, 4294967296, 0, 0, 0, cp, cf, mt, op, tk, tp, fp, sk, oc, of, bt, ba, rd, up_n sl 0 (fun _ => vb_pk 1 0) 7, upd ac 0 (-1), upd af 0 0, upd fa 0 0, upd fw 0 0, upd fv 0 0, wt, wd, vp_updL wv 0 (vb_pk 1 0), pr, um_n mc 6)) ∧ (¬ mn = -1 → post (nc, nt, ns, mn, 0, 1, 0, nI (0 + 1), 0, -1, 4294967296, 0, 0, 0, cp, cf, mt, op, tk, tp, fp, sk, oc, of, bt, ba, rd, up_n sl 0 (fun _ => vb_pk 1 0) 7, upd ac 0 (-1), upd af 0 0, upd fa 0 0, upd fw 0 0, upd fv 0 0, upd wt 0 mn, upd wd 0 0, wv, pr, um_n mc 6))) : wpX_prepare post (nc, nt, ns, mn, n, na, f, ws, vs, en, rs, pc, tc, dc, cp, cf, mt, op, tk, tp, fp, sk, oc, of, bt, ba, rd, sl, ac, af, fa, fw, fv, wt, wd, wv, pr, mc) :=
  Exists.intro 7 (pf_x34 post (pf_x55 post hp 7 0 rfl) 6 0 rfl)
end
section
variable {yc yt ys ym no nb ya yw yv yu yo yk yp ye : Int32} {ycp ycf ymt kd ytk ytp ysk yoc ybt ybp ow ed wa yh ypr mo mb : Nat → Int32} {yof sv vr vl : Nat → Int64}
theorem pf_y43 (post : SY → Prop) (hp : (0 ≤ ym → ∃ m, wY_work_133 post m yc yt ys ym no nb ya (nI (0 + 1)) (nI 0) 0 0 0 0 (-4) ycp ycf ymt kd ytk ytp ysk yoc yof ybt ybp sv (up_n vr 0 (fun _ => vb_pk 1 0) 6) ow ed (upd wa 0 (1024 * 0 + 8 * ym + 0)) (upd yh 0 0) vl ypr mo mb) ∧ (¬ 0 ≤ ym → ∃ m, wY_work_133 post m yc yt ys ym no nb ya 0 (nI (0 + 1)) 0 0 0 0 (-4) ycp ycf ymt kd ytk ytp ysk yoc yof ybt ybp sv (up_n vr 0 (fun _ => vb_pk 1 0) 6) ow ed wa yh (vp_updL vl 0 (vb_pk 1 0)) ypr mo mb)) : ∀ e k : Nat, k + e = 6 → wY_work_43 post yc yt ys ym no nb ya yw yv yu yo yk yp ye (e + 1) (nI k) ycp ycf ymt kd ytk ytp ysk yoc yof ybt ybp sv (up_n vr 0 (fun _ => vb_pk 1 0) k) ow ed wa yh vl ypr mo mb := by
  intro e
  induction e with
  | zero =>
    intro k h
    have : k = 6 := by omega
    subst this
    refine br_t (by decide) (br_c (fun z => ?_) (fun z => ?_))
    · exact And.intro (vp_in_nI (n := 0) (by decide) (by decide)) (nm_e (And.intro (vp_in_nI (n := 0) (by decide) (by decide)) (nm_e (nm_e (hp.1 z)))))
    · exact ay_thing _ (ay_hold (q := 0) _ (by omega) (hp.2 z))
  | succ e ih =>
    intro k h
    exact br_f (nI_ge (b := 6) (by omega) (by decide)) (ay_thing _ (And.intro (vp_in_nI (by omega) (by decide)) (nm_r (e' := up_n vr 0 (fun _ => vb_pk 1 0) (k + 1)) (by rw [nI_clamp (by omega)]; show _ = vp_updL _ (0 + k) _; rw [Nat.zero_add]) (nm_r (nI_1 k) (ih (k + 1) (by omega))))))
theorem pf_y (post : SY → Prop) (hp : (0 ≤ ym → ∃ m, wY_work_133 post m yc yt ys ym 0 0 1 (nI (0 + 1)) (nI 0) 0 0 0 0 (-4) ycp ycf ymt kd ytk ytp ysk yoc yof ybt ybp (vp_updL sv 0 (vb_pk 1 0)) (up_n vr 0 (fun _ => vb_pk 1 0) 6) (upd ow 0 (-1)) (upd ed 0 0) (upd wa 0 (1024 * 0 + 8 * ym + 0)) (upd yh 0 0) vl ypr mo mb) ∧ (¬ 0 ≤ ym → ∃ m, wY_work_133 post m yc yt ys ym 0 0 1 0 (nI (0 + 1)) 0 0 0 0 (-4) ycp ycf ymt kd ytk ytp ysk yoc yof ybt ybp (vp_updL sv 0 (vb_pk 1 0)) (up_n vr 0 (fun _ => vb_pk 1 0) 6) (upd ow 0 (-1)) (upd ed 0 0) wa yh (vp_updL vl 0 (vb_pk 1 0)) ypr mo mb)) : wpY_work post (yc, yt, ys, ym, no, nb, ya, yw, yv, yu, yo, yk, yp, ye, ycp, ycf, ymt, kd, ytk, ytp, ysk, yoc, yof, ybt, ybp, sv, vr, ow, ed, wa, yh, vl, ypr, mo, mb) := by
  unfold wpY_work
  exact ay_thing _ (nm_e (nm_e (nm_r (e' := upd ed 0 0) (by rw [ay_n0]) (Exists.intro 7 (pf_y43 post hp 6 0 rfl)))))
end
section
variable {NC NT : Nat} {ns mn : Int32} {cp cf mt op tk tp fp sk kd py : Nat → Int32} {KN PN SZ : Nat → Nat}
theorem pf_go (P : pg_P NC NT cp cf mt op tk tp fp kd KN PN SZ) (hmn : mn = -1 ∨ ∃ t, t < NT ∧ mn = nI t) {n na f ws vs en pc tc dc : Int32} {rs : Int64} {oc bt ba rd ac af fa fw fv wt wd pr mc : Nat → Int32} {of sl wv : Nat → Int64} {no nb ya yw yv yu yo yk yp ye : Int32} {yoc ybt ybp ow ed wa yh mo mb : Nat → Int32} {yof sv vr vl : Nat → Int64} : ∃ u' v', fr_R NC NT ns mn cp cf mt op tk tp fp sk kd py KN PN SZ u' v' ∧ (∀ Q : SX → Prop, Q u' → wpX_perform Q (nI NC, nI NT, ns, mn, n, na, f, ws, vs, en, rs, pc, tc, dc, cp, cf, mt, op, tk, tp, fp, sk, oc, of, bt, ba, rd, sl, ac, af, fa, fw, fv, wt, wd, wv, pr, mc)) ∧ (∀ Q : SY → Prop, Q v' → wpY_work Q (nI NC, nI NT, ns, mn, no, nb, ya, yw, yv, yu, yo, yk, yp, ye, cp, cf, mt, kd, tk, tp, sk, yoc, yof, ybt, ybp, sv, vr, ow, ed, wa, yh, vl, py, mo, mb)) := by
  have hN := P.1
  have nl : vb_R (fun _ => false) 0 (vb_pk 1 0) (vb_pk 1 0) := Or.inl ⟨rfl, rfl⟩
  have r : ∀ (wt wd wa yh : Nat → Int32) (wv vl : Nat → Int64), (rl_R NC NT 0 1 0 0 0 ((fun _ => false)) ([]) cp cf mt op tk tp fp kd KN PN SZ oc of bt ba (up_n sl 0 (fun _ => vb_pk 1 0) 7) (upd ac 0 (-1)) (upd af 0 0) (upd fa 0 0) (upd fw 0 0) (upd fv 0 0) wt wd wv (um_n mc 6) yoc yof ybt ybp (vp_updL sv 0 (vb_pk 1 0)) (up_n vr 0 (fun _ => vb_pk 1 0) 6) (upd ow 0 (-1)) (upd ed 0 0) wa yh vl) := by
    intro wt wd wa yh wv vl
    refine ⟨P, ⟨fun t h => absurd h (Nat.not_lt_zero _), fun t h => absurd h (Nat.not_lt_zero _), ?_⟩, ⟨True.intro, ⟨pk_us, pk_us, pk_us⟩, ?_⟩, ⟨by omega, by omega, by omega⟩, ⟨by omega, Nat.le_refl _, by omega⟩, ?_, fun i h => absurd h (Nat.not_lt_zero _)⟩
    · intro a ha
      have : a = 0 := by omega
      subst this
      refine ⟨?_, ?_, ?_, ?_⟩
      · rw [show 0 * 7 + 6 = 0 + 6 from rfl, up_in (by omega), pk_uLs]; exact nl
      · intro v hv
        rw [show 0 * 7 + v = 0 + v by omega, show 6 * 0 + v = 0 + v by omega, up_in (by omega), up_in hv]; exact nl
      · rw [pk_us, pk_us]
      · exact Or.inl pk_us
    · intro a ha
      have : a = 0 := by omega
      subst this
      exact ⟨pk_us, pk_us⟩
    · intro c hc
      exact um_in (by omega)
  rcases hmn with rfl | ⟨t, ht, rfl⟩
  · have C := cf_Vi (μ := 161000) (K := []) (N := 0) (A := 1) (T := 0) (Pc := 0) (D := 0) (ob := fun _ => false) (ns := ns) (mn := -1) (sk := sk) (rs := 4294967296) (rd := rd) (pr := pr) (mo := mo) (mb := mb) (py := py) (r wt wd wa yh (vp_updL wv 0 (vb_pk 1 0)) (vp_updL vl 0 (vb_pk 1 0))) (by show vb_R _ _ (vp_updL wv 0 (vb_pk 1 0) 0) (vp_updL vl 0 (vb_pk 1 0) 0); rw [pk_uLs, pk_uLs]; exact nl) (by show 802 * (200 - 0) + 0 + 1 ≤ 161000; omega)
    rw [pe_0] at C
    obtain ⟨u', v', F, gX, gY⟩ := nx_go op_all 161001 161000 _ _ (by omega) C
    refine ⟨u', v', F, fun Q hQ => ?_, fun Q hQ => ?_⟩
    · unfold wpX_perform
      exact pf_x _ ⟨fun _ => gX Q 0 (by omega) hQ, fun z => absurd rfl z⟩
    · exact pf_y Q ⟨fun z => absurd z (by decide), fun _ => gY Q hQ⟩
  · have z := pg_sz P ht
    have h100 := P.2.1
    have C := cf_Ei (μ := 161000) (K := []) (t := t) (N := 0) (A := 1) (T := 0) (Pc := 0) (D := 0) (ob := fun _ => false) (ns := ns) (mn := nI t) (sk := sk) (rs := 4294967296) (rd := rd) (pr := pr) (mo := mo) (mb := mb) (py := py) (r (upd wt 0 (nI t)) (upd wd 0 0) (upd wa 0 (nI (8 * t))) (upd yh 0 0) wv vl) ⟨ht, by show 0 + 0 + SZ t ≤ 100 * (0 + 1); omega⟩ pk_us pk_us (by show upd wa 0 (nI (8 * t)) 0 = nI (1024 * 0 + 8 * t + 0); rw [pk_us]; exact congrArg nI (by omega)) (by show 802 * (200 - 0) + 0 + 4 * SZ t ≤ 161000; omega)
    rw [pe_0] at C
    obtain ⟨u', v', F, gX, gY⟩ := nx_go op_all 161001 161000 _ _ (by omega) C
    have e8 : (1024 * 0 + 8 * nI t + 0 : Int32) = nI (8 * t) := by
      rw [show (1024 * 0 : Int32) = 0 from by decide, Int32.zero_add, Int32.add_zero, show (8 : Int32) = nI 8 from rfl, pk_mul]
    refine ⟨u', v', F, fun Q hQ => ?_, fun Q hQ => ?_⟩
    · unfold wpX_perform
      exact pf_x _ ⟨fun z => absurd z (ax_nIm1 (by omega)), fun _ => gX Q 0 (by omega) hQ⟩
    · exact pf_y Q ⟨fun _ => by rw [e8]; exact gY Q hQ, fun z => absurd (nI_pos' (by omega)) z⟩
end
end
section
/-! the relation between calls -/
def sg_sm (SZ G : Nat → Nat) : Nat → Nat
  | 0 => 0
  | d + 1 => sg_sm SZ G d + SZ (G d)
def sg_u (f : Nat → Nat) (i x : Nat) : Nat → Nat := fun j => if j = i then x else f j
def sg_P (PN G : Nat → Nat) (c b : Nat) : Nat → Nat := fun j => if c ≤ j then G (b + (j - c)) else PN j
def sg_S (NC NT SP : Nat) (mn : Int32) (cp cf mt op tk tp fp sk kd : Nat → Int32) (KN PN SZ G : Nat → Nat) : Prop :=
  pg_P NC NT cp cf mt op tk tp fp kd KN PN SZ ∧ SP ≤ 8 ∧ (∀ i, i < SP → G i < NT ∧ sk i = nI (G i)) ∧ sg_sm SZ G SP ≤ NT ∧ (mn = -1 ∨ ∃ t, t < NT ∧ mn = nI t)
def rk_R (u : SX) (v : SY) : Prop := ∃ (NC NT SP : Nat) (KN PN SZ G : Nat → Nat) (mn n na f ws vs en pc tc dc no nb ya yw yv yu yo yk yp ye : Int32) (rs : Int64) (cp cf mt op tk tp fp sk oc bt ba rd ac af fa fw fv wt wd pr mc kd yoc ybt ybp ow ed wa yh ypr mo mb : Nat → Int32) (of sl wv yof sv vr vl : Nat → Int64), u = (nI NC, nI NT, nI SP, mn, n, na, f, ws, vs, en, rs, pc, tc, dc, cp, cf, mt, op, tk, tp, fp, sk, oc, of, bt, ba, rd, sl, ac, af, fa, fw, fv, wt, wd, wv, pr, mc) ∧ v = (nI NC, nI NT, nI SP, mn, no, nb, ya, yw, yv, yu, yo, yk, yp, ye, cp, cf, mt, kd, tk, tp, sk, yoc, yof, ybt, ybp, sv, vr, ow, ed, wa, yh, vl, ypr, mo, mb) ∧ sg_S NC NT SP mn cp cf mt op tk tp fp sk kd KN PN SZ G
section
variable {nc nt ns mn n na f ws vs en pc tc dc : Int32} {rs : Int64} {cp cf mt op tk tp fp sk oc bt ba rd ac af fa fw fv wt wd pr mc : Nat → Int32} {of sl wv : Nat → Int64}
variable {yc yt ys ym no nb ya yw yv yu yo yk yp ye : Int32} {ycp ycf ymt kd ytk ytp ysk yoc ybt ybp ow ed wa yh ypr mo mb : Nat → Int32} {yof sv vr vl : Nat → Int64}
variable {NC NT SP : Nat} {KN PN SZ G : Nat → Nat}
theorem rk_i (S : sg_S NC NT SP mn cp cf mt op tk tp fp sk kd KN PN SZ G) : rk_R (nI NC, nI NT, nI SP, mn, n, na, f, ws, vs, en, rs, pc, tc, dc, cp, cf, mt, op, tk, tp, fp, sk, oc, of, bt, ba, rd, sl, ac, af, fa, fw, fv, wt, wd, wv, pr, mc) (nI NC, nI NT, nI SP, mn, no, nb, ya, yw, yv, yu, yo, yk, yp, ye, cp, cf, mt, kd, tk, tp, sk, yoc, yof, ybt, ybp, sv, vr, ow, ed, wa, yh, vl, ypr, mo, mb) :=
  ⟨NC, NT, SP, KN, PN, SZ, G, mn, n, na, f, ws, vs, en, pc, tc, dc, no, nb, ya, yw, yv, yu, yo, yk, yp, ye, rs, cp, cf, mt, op, tk, tp, fp, sk, oc, bt, ba, rd, ac, af, fa, fw, fv, wt, wd, pr, mc, kd, yoc, ybt, ybp, ow, ed, wa, yh, ypr, mo, mb, of, sl, wv, yof, sv, vr, vl, rfl, rfl, S⟩
end
theorem sg_us {f : Nat → Nat} {i x : Nat} : sg_u f i x i = x := if_pos rfl
theorem sg_un {f : Nat → Nat} {i j x : Nat} (h : j ≠ i) : sg_u f i x j = f j := if_neg h
theorem sg_add {SZ G : Nat → Nat} {b : Nat} : ∀ p, sg_sm SZ G (b + p) = sg_sm SZ G b + sg_sm SZ (fun j => G (b + j)) p
  | 0 => rfl
  | p + 1 => by
    show sg_sm SZ G (b + p) + SZ (G (b + p)) = sg_sm SZ G b + (sg_sm SZ (fun j => G (b + j)) p + SZ (G (b + p)))
    rw [sg_add p, Nat.add_assoc]
theorem sg_cg {SZ SZ' G G' : Nat → Nat} : ∀ {p : Nat}, (∀ j, j < p → SZ' (G' j) = SZ (G j)) → sg_sm SZ' G' p = sg_sm SZ G p
  | 0, _ => rfl
  | p + 1, h => by
    show sg_sm SZ' G' p + SZ' (G' p) = sg_sm SZ G p + SZ (G p)
    rw [sg_cg (fun j hj => h j (by omega)), h p (by omega)]
theorem sg_pm {SZ SZ' PN G : Nat → Nat} {t : Nat} : ∀ {d : Nat}, (∀ j, j < d → SZ' (PN (3 * t + j)) = SZ (G j)) → pg_sm SZ' PN t d = sg_sm SZ G d
  | 0, _ => rfl
  | d + 1, h => by
    show pg_sm SZ' PN t d + SZ' (PN (3 * t + d)) = sg_sm SZ G d + SZ (G d)
    rw [sg_pm (fun j hj => h j (by omega)), h d (by omega)]
theorem sg_pc {SZ SZ' PN PN' : Nat → Nat} {t : Nat} : ∀ {d : Nat}, (∀ j, j < d → SZ' (PN' (3 * t + j)) = SZ (PN (3 * t + j))) → pg_sm SZ' PN' t d = pg_sm SZ PN t d
  | 0, _ => rfl
  | d + 1, h => by
    show pg_sm SZ' PN' t d + SZ' (PN' (3 * t + d)) = pg_sm SZ PN t d + SZ (PN (3 * t + d))
    rw [sg_pc (fun j hj => h j (by omega)), h d (by omega)]
/-! a term is built -/
def bu_n (tp sk : Nat → Int32) (c b : Nat) : Nat → Nat → Int32
  | 0 => tp
  | i + 1 => upd (bu_n tp sk c b i) (c + i) (sk (b + i))
theorem bu_in {tp sk : Nat → Int32} {c b : Nat} : ∀ {p j : Nat}, j < p → bu_n tp sk c b p (c + j) = sk (b + j)
  | 0, _, h => absurd h (Nat.not_lt_zero _)
  | p + 1, j, h => by
    show upd (bu_n tp sk c b p) (c + p) (sk (b + p)) (c + j) = sk (b + j)
    by_cases e : j = p
    · subst e; exact pk_us
    · rw [pk_un (by omega)]; exact bu_in (by omega)
theorem bu_out {tp sk : Nat → Int32} {c b i : Nat} (h : i < c) : ∀ {p : Nat}, bu_n tp sk c b p i = tp i
  | 0 => rfl
  | p + 1 => by
    show upd (bu_n tp sk c b p) (c + p) (sk (b + p)) i = tp i
    rw [pk_un (by omega)]; exact bu_out h
theorem bu_k {nc nc' k : Nat} {x : Int32} (hn : nc ≤ nc') (h : pg_k nc k x) : pg_k nc' k x := by
  obtain ⟨a, b, c, d⟩ := h
  exact ⟨a, b, fun z => by obtain ⟨j, h1, h2⟩ := c z; exact ⟨j, by omega, h2⟩, d⟩
theorem bu_go {NC NT b p k : Nat} {mn x : Int32} {cp cf mt op tk tp fp sk kd : Nat → Int32} {KN PN SZ G : Nat → Nat} (S : sg_S NC NT (b + p) mn cp cf mt op tk tp fp sk kd KN PN SZ G) (hk : pg_v k) (hx : pg_k NC k x) (hp : k / 10 = p) (hN : NT < 100) (h8 : b < 8) : sg_S NC (NT + 1) (b + 1) mn cp cf mt (upd op NT (nI (pg_op k))) (upd tk NT x) (bu_n tp sk (3 * NT) b p) (upd fp NT (nI (pg_fp k))) (upd sk b (nI NT)) (upd kd NT (nI k)) (sg_u KN NT k) (sg_P PN G (3 * NT) b) (sg_u SZ NT (1 + sg_sm SZ (fun j => G (b + j)) p)) (sg_u G b NT) := by
  obtain ⟨⟨P1, P2, P3, P4⟩, S2, S3, S4, S5⟩ := S
  have hs := sg_add (SZ := SZ) (G := G) (b := b) p
  have hp3 : p ≤ 3 := by
    have := (pg_fpl hk).2
    omega
  refine ⟨⟨P1, by omega, ?_, ?_⟩, by omega, ?_, ?_, ?_⟩
  · intro c hc
    obtain ⟨a1, a2, a3⟩ := P3 c hc
    refine ⟨a1, a2, fun s hs => ?_⟩
    rcases a3 s hs with h | ⟨t, h1, h2⟩
    · exact Or.inl h
    · exact Or.inr ⟨t, by omega, h2⟩
  · intro t ht
    by_cases e : t = NT
    · subst e
      have q : pg_sm (sg_u SZ t (1 + sg_sm SZ (fun j => G (b + j)) p)) (sg_P PN G (3 * t) b) t p = sg_sm SZ (fun j => G (b + j)) p := by
        refine sg_pm (fun j hj => ?_)
        have g : sg_P PN G (3 * t) b (3 * t + j) = G (b + j) := by
          show (if 3 * t ≤ 3 * t + j then G (b + (3 * t + j - 3 * t)) else PN (3 * t + j)) = G (b + j)
          rw [if_pos (by omega), show b + (3 * t + j - 3 * t) = b + j by omega]
        rw [g]
        exact sg_un (by have := (S3 (b + j) (by omega)).1; omega)
      unfold pg_T
      rw [sg_us, sg_us, pk_us, pk_us, pk_us, pk_us, hp, q]
      refine ⟨hk, rfl, rfl, rfl, hx, ?_, by omega, by omega⟩
      intro i hi
      have g : sg_P PN G (3 * t) b (3 * t + i) = G (b + i) := by
        show (if 3 * t ≤ 3 * t + i then G (b + (3 * t + i - 3 * t)) else PN (3 * t + i)) = G (b + i)
        rw [if_pos (by omega), show b + (3 * t + i - 3 * t) = b + i by omega]
      rw [g, bu_in hi]
      exact ⟨(S3 (b + i) (by omega)).2, (S3 (b + i) (by omega)).1⟩
    · have T := P4 t (by omega)
      unfold pg_T at T
      obtain ⟨t1, t2, t3, t4, t5, t6, t7⟩ := T
      have k3 := (pg_fpl t1).2
      have g : ∀ i, i < KN t / 10 → sg_P PN G (3 * NT) b (3 * t + i) = PN (3 * t + i) := fun i hi => if_neg (by omega)
      have q : pg_sm (sg_u SZ NT (1 + sg_sm SZ (fun j => G (b + j)) p)) (sg_P PN G (3 * NT) b) t (KN t / 10) = pg_sm SZ PN t (KN t / 10) := by
        refine sg_pc (fun j hj => ?_)
        rw [g j hj]
        exact sg_un (by have := (t6 j hj).2; omega)
      unfold pg_T
      rw [sg_un e, sg_un e, pk_un e, pk_un e, pk_un e, pk_un e, q]
      refine ⟨t1, t2, t3, t4, t5, ?_, t7⟩
      intro i hi
      rw [g i hi, bu_out (by omega)]
      exact t6 i hi
  · intro i hi
    by_cases e : i = b
    · subst e
      rw [sg_us, pk_us]
      exact ⟨by omega, rfl⟩
    · rw [sg_un e, pk_un e]
      have := S3 i (by omega)
      exact ⟨by omega, this.2⟩
  · show sg_sm (sg_u SZ NT (1 + sg_sm SZ (fun j => G (b + j)) p)) (sg_u G b NT) b + sg_u SZ NT (1 + sg_sm SZ (fun j => G (b + j)) p) (sg_u G b NT b) ≤ NT + 1
    have q : sg_sm (sg_u SZ NT (1 + sg_sm SZ (fun j => G (b + j)) p)) (sg_u G b NT) b = sg_sm SZ G b := by
      refine sg_cg (fun j hj => ?_)
      rw [sg_un (show j ≠ b by omega)]
      exact sg_un (by have := (S3 j (by omega)).1; omega)
    rw [q, sg_us, sg_us]
    omega
  · rcases S5 with h | ⟨t, h1, h2⟩
    · exact Or.inl h
    · exact Or.inr ⟨t, by omega, h2⟩
theorem bu_i3 {t d : Nat} : 3 * nI t + nI d = nI (3 * t + d) := by
  rw [show (3 : Int32) = nI 3 from rfl, pk_mul, nI_add]
section
variable {nc nt ns mn n na f ws vs en pc tc dc : Int32} {rs : Int64} {cp cf mt op tk tp fp sk oc bt ba rd ac af fa fw fv wt wd pr mc : Nat → Int32} {of sl wv : Nat → Int64}
theorem bu_xl (post : Int32 → SX → Prop) {p t b : Nat} (hp3 : p ≤ 3) (ht : t < 100) (hb : b + p ≤ 8) (hb8 : b < 8) (hp : post (nI (b + 1)) (nc, nt, nI (b + 1), mn, n, na, f, ws, vs, en, rs, pc, tc, dc, cp, cf, mt, op, tk, bu_n tp sk (3 * t) b p, fp, upd sk b (nI t), oc, of, bt, ba, rd, sl, ac, af, fa, fw, fv, wt, wd, wv, pr, mc)) : ∀ e k : Nat, k + e = p → wX_build_57 post (nI p) (nI t) nc nt (nI b) mn n na f ws vs en rs pc tc dc (e + 1) (nI k) cp cf mt op tk (bu_n tp sk (3 * t) b k) fp sk oc of bt ba rd sl ac af fa fw fv wt wd wv pr mc := by
  intro e
  induction e with
  | zero =>
    intro k h
    have : k = p := by omega
    subst this
    exact br_t (nI_le (Nat.le_refl _) (by omega)) (And.intro (vp_in_nI hb8 (by decide)) (nm_r (e' := upd sk b (nI t)) (by rw [nI_clamp (by omega)]) (nm_r (nI_1 b) hp)))
  | succ e ih =>
    intro k h
    exact br_f (nI_ge (b := p) (by omega) (by omega)) (And.intro (by rw [nI_add]; exact vp_in_nI (by omega) (by decide)) (And.intro (by rw [ax_ix3]; exact vp_in_nI (by omega) (by decide)) (nm_r (e' := bu_n tp sk (3 * t) b (k + 1)) (by rw [ax_ix3, nI_add, nI_clamp (by omega), nI_clamp (by omega)]; rfl) (nm_r (nI_1 k) (ih (k + 1) (by omega))))))
theorem bu_x (post : Int32 → SX → Prop) {p t b q : Nat} {o x : Int32} (hp3 : p ≤ 3) (ht : t < 100) (hb : b + p ≤ 8) (hb8 : b < 8) (hF : ∀ Q : Int32 → Prop, Q (nI q) → wpX_firstParts Q o (nI p)) (hp : post (nI (b + 1)) (nc, nI (t + 1), nI (b + 1), mn, n, na, f, ws, vs, en, rs, pc, tc, dc, cp, cf, mt, upd op t o, upd tk t x, bu_n tp sk (3 * t) b p, upd fp t (nI q), upd sk b (nI t), oc, of, bt, ba, rd, sl, ac, af, fa, fw, fv, wt, wd, wv, pr, mc)) : wpX_build post (nc, nI t, nI (b + p), mn, n, na, f, ws, vs, en, rs, pc, tc, dc, cp, cf, mt, op, tk, tp, fp, sk, oc, of, bt, ba, rd, sl, ac, af, fa, fw, fv, wt, wd, wv, pr, mc) o x (nI p) :=
  nm_r (nI_1 t) (And.intro (vp_in_nI ht (by decide)) (nm_r (e' := upd op t o) (by rw [nI_clamp (by omega)]) (And.intro (vp_in_nI ht (by decide)) (nm_r (e' := upd tk t x) (by rw [nI_clamp (by omega)]) (hF _ (And.intro (vp_in_nI ht (by decide)) (nm_r (e' := upd fp t (nI q)) (by rw [nI_clamp (by omega)]) (nm_r (e' := nI b) (by rw [pk_sub (by omega)]; exact congrArg nI (by omega)) (Exists.intro (p + 1) (bu_xl post hp3 ht hb hb8 hp p 0 (by omega)))))))))))
end
theorem bu_fp {k : Nat} (h : pg_v k) (Q : Int32 → Prop) (hQ : Q (nI (pg_fp k))) : wpX_firstParts Q (nI (pg_op k)) (nI (k / 10)) := by
  have k31 : k < 32 := by unfold pg_v at h; omega
  have o : ∀ k, k < 32 → (pg_op k = 10 ↔ k = 13) ∧ (pg_op k = 23 ↔ k = 30) ∧ (pg_op k = 21 ↔ k = 26) ∧ pg_op k < 40 := by
    decide +kernel
  obtain ⟨a, b, c, d⟩ := o k k31
  by_cases e1 : k = 13
  · subst e1
    exact br_t rfl hQ
  · by_cases e2 : k = 30
    · subst e2
      exact br_f (by decide) (br_t rfl hQ)
    · by_cases e3 : k = 26
      · subst e3
        exact br_f (by decide) (br_f (by decide) (br_t rfl hQ))
      · rw [show pg_fp k = k / 10 by unfold pg_fp; rw [if_neg e1, if_neg (by omega)]] at hQ
        have N : ∀ j, j < 40 → pg_op k ≠ j → ¬ nI (pg_op k) = nI j := fun j hj z e => z ((nI_eq (by omega) (by omega)).mp e)
        exact br_f (N 10 (by omega) (fun z => e1 (a.mp z))) (br_f (N 23 (by omega) (fun z => e2 (b.mp z))) (br_f (N 21 (by omega) (fun z => e3 (c.mp z))) hQ))
section
variable {yc yt ys ym no nb ya yw yv yu yo yk yp ye : Int32} {ycp ycf ymt kd ytk ytp ysk yoc ybt ybp ow ed wa yh ypr mo mb : Nat → Int32} {yof sv vr vl : Nat → Int64}
theorem bu_yl (post : Int32 → SY → Prop) {p t b : Nat} {kk x : Int32} (hp3 : p ≤ 3) (ht : t < 100) (hb : b + p ≤ 8) (hb8 : b < 8) (hp : post (nI (b + 1)) (yc, nI (t + 1), nI (b + 1), ym, no, nb, ya, yw, yv, yu, yo, yk, yp, ye, ycp, ycf, ymt, upd kd t kk, upd ytk t x, bu_n ytp ysk (3 * t) b p, upd ysk b (nI t), yoc, yof, ybt, ybp, sv, vr, ow, ed, wa, yh, vl, ypr, mo, mb)) : ∀ e k : Nat, k + e = p → wY_note_13 post kk x (nI p) yc (nI t) (nI b) ym no nb ya yw yv yu yo yk yp ye (e + 1) (nI k) ycp ycf ymt kd ytk (bu_n ytp ysk (3 * t) b k) ysk yoc yof ybt ybp sv vr ow ed wa yh vl ypr mo mb := by
  intro e
  induction e with
  | zero =>
    intro k h
    have : k = p := by omega
    subst this
    exact br_t (nI_le (Nat.le_refl _) (by omega)) (And.intro (vp_in_nI ht (by decide)) (nm_r (e' := upd kd t kk) (by rw [nI_clamp (by omega)]) (And.intro (vp_in_nI ht (by decide)) (nm_r (e' := upd ytk t x) (by rw [nI_clamp (by omega)]) (And.intro (vp_in_nI hb8 (by decide)) (nm_r (e' := upd ysk b (nI t)) (by rw [nI_clamp (by omega)]) (nm_r (nI_1 t) (nm_r (nI_1 b) hp))))))))
  | succ e ih =>
    intro k h
    exact br_f (nI_ge (b := p) (by omega) (by omega)) (And.intro (by rw [nI_add]; exact vp_in_nI (by omega) (by decide)) (And.intro (by rw [bu_i3]; exact vp_in_nI (by omega) (by decide)) (nm_r (e' := bu_n ytp ysk (3 * t) b (k + 1)) (by rw [bu_i3, nI_add, nI_clamp (by omega), nI_clamp (by omega)]; rfl) (nm_r (nI_1 k) (ih (k + 1) (by omega))))))
theorem bu_y (post : Int32 → SY → Prop) {p t b : Nat} {kk x : Int32} (hp3 : p ≤ 3) (ht : t < 100) (hb : b + p ≤ 8) (hb8 : b < 8) (hp : post (nI (b + 1)) (yc, nI (t + 1), nI (b + 1), ym, no, nb, ya, yw, yv, yu, yo, yk, yp, ye, ycp, ycf, ymt, upd kd t kk, upd ytk t x, bu_n ytp ysk (3 * t) b p, upd ysk b (nI t), yoc, yof, ybt, ybp, sv, vr, ow, ed, wa, yh, vl, ypr, mo, mb)) : wpY_note post (yc, nI t, nI (b + p), ym, no, nb, ya, yw, yv, yu, yo, yk, yp, ye, ycp, ycf, ymt, kd, ytk, ytp, ysk, yoc, yof, ybt, ybp, sv, vr, ow, ed, wa, yh, vl, ypr, mo, mb) kk x (nI p) :=
  nm_r (e' := nI b) (by rw [pk_sub (by omega)]; exact congrArg nI (by omega)) (Exists.intro (p + 1) (bu_yl post hp3 ht hb hb8 hp p 0 (by omega)))
/-! what note's caller asks -/
theorem my_0 (post : Int32 → SY → Prop) {kk x p : Int32} (hp : post (-1) (yc, yt, ys, ym, no, nb, ya, yw, yv, yu, yo, yk, yp, ye, ycp, ycf, ymt, kd, ytk, ytp, ysk, yoc, yof, ybt, ybp, sv, vr, ow, ed, wa, yh, vl, ypr, mo, mb)) : wpY_make post (yc, yt, ys, ym, no, nb, ya, yw, yv, yu, yo, yk, yp, ye, ycp, ycf, ymt, kd, ytk, ytp, ysk, yoc, yof, ybt, ybp, sv, vr, ow, ed, wa, yh, vl, ypr, mo, mb) kk x p 0 :=
  br_t rfl hp
theorem my_n (post : Int32 → SY → Prop) {kk x p : Int32} (hp : post (-2) (yc, nI 100, ys, ym, no, nb, ya, yw, yv, yu, yo, yk, yp, ye, ycp, ycf, ymt, kd, ytk, ytp, ysk, yoc, yof, ybt, ybp, sv, vr, ow, ed, wa, yh, vl, ypr, mo, mb)) : wpY_make post (yc, nI 100, ys, ym, no, nb, ya, yw, yv, yu, yo, yk, yp, ye, ycp, ycf, ymt, kd, ytk, ytp, ysk, yoc, yof, ybt, ybp, sv, vr, ow, ed, wa, yh, vl, ypr, mo, mb) kk x p 1 :=
  br_f (by decide) (br_t rfl hp)
theorem my_s (post : Int32 → SY → Prop) {t : Nat} {kk x : Int32} (ht : t < 100) (hp : post (-2) (yc, nI t, nI 8, ym, no, nb, ya, yw, yv, yu, yo, yk, yp, ye, ycp, ycf, ymt, kd, ytk, ytp, ysk, yoc, yof, ybt, ybp, sv, vr, ow, ed, wa, yh, vl, ypr, mo, mb)) : wpY_make post (yc, nI t, nI 8, ym, no, nb, ya, yw, yv, yu, yo, yk, yp, ye, ycp, ycf, ymt, kd, ytk, ytp, ysk, yoc, yof, ybt, ybp, sv, vr, ow, ed, wa, yh, vl, ypr, mo, mb) kk x 0 1 :=
  br_f (by decide) (br_f (ay_nIne (b := 100) (by omega) (by omega) (by omega)) (br_t rfl (br_t rfl hp)))
theorem my_f (post : Int32 → SY → Prop) {t s p : Nat} {kk x : Int32} (ht : t < 100) (h0 : 1 ≤ p) (hp3 : p ≤ 3) (hs : s < p) (hp : post (-3) (yc, nI t, nI s, ym, no, nb, ya, yw, yv, yu, yo, yk, yp, ye, ycp, ycf, ymt, kd, ytk, ytp, ysk, yoc, yof, ybt, ybp, sv, vr, ow, ed, wa, yh, vl, ypr, mo, mb)) : wpY_make post (yc, nI t, nI s, ym, no, nb, ya, yw, yv, yu, yo, yk, yp, ye, ycp, ycf, ymt, kd, ytk, ytp, ysk, yoc, yof, ybt, ybp, sv, vr, ow, ed, wa, yh, vl, ypr, mo, mb) kk x (nI p) 1 :=
  br_f (by decide) (br_f (ay_nIne (b := 100) (by omega) (by omega) (by omega)) (br_f (nI_ne0 h0 (by omega)) (br_f (nI_ge hs (by omega)) hp)))
theorem my_g (post : Int32 → SY → Prop) {t b p : Nat} {kk x : Int32} (ht : t < 100) (hp3 : p ≤ 3) (hb : b + p ≤ 8) (hb8 : b < 8) (hp : post (nI (b + 1)) (yc, nI (t + 1), nI (b + 1), ym, no, nb, ya, yw, yv, yu, yo, yk, yp, ye, ycp, ycf, ymt, upd kd t kk, upd ytk t x, bu_n ytp ysk (3 * t) b p, upd ysk b (nI t), yoc, yof, ybt, ybp, sv, vr, ow, ed, wa, yh, vl, ypr, mo, mb)) : wpY_make post (yc, nI t, nI (b + p), ym, no, nb, ya, yw, yv, yu, yo, yk, yp, ye, ycp, ycf, ymt, kd, ytk, ytp, ysk, yoc, yof, ybt, ybp, sv, vr, ow, ed, wa, yh, vl, ypr, mo, mb) kk x (nI p) 1 := by
  have M : wY_make_32 post kk x (nI p) yc (nI t) (nI (b + p)) ym no nb ya yw yv yu yo yk yp ye ycp ycf ymt kd ytk ytp ysk yoc yof ybt ybp sv vr ow ed wa yh vl ypr mo mb := br_t (nI_le (by omega) (by omega)) (bu_y _ hp3 ht hb hb8 hp)
  by_cases z : p = 0
  · subst z
    exact br_f (by decide) (br_f (ay_nIne (b := 100) (by omega) (by omega) (by omega)) (br_t rfl (br_f (ay_nIne (b := 8) (by omega) (by omega) (by omega)) M)))
  · exact br_f (by decide) (br_f (ay_nIne (b := 100) (by omega) (by omega) (by omega)) (br_f (nI_ne0 (by omega) (by omega)) M))
end
end
section
/-! which calls fit -/
def fi_R (n : Nat) (x r : Int32) : Prop := (r = 0 ∧ x < 0) ∨ (∃ j, j < 2 ^ 31 ∧ x = nI j ∧ ((r = 0 ∧ n ≤ j) ∨ (r = 1 ∧ j < n)))
def fm_R (a : Nat) (x r : Int32) : Prop := (r = 0 ∧ x < 0) ∨ (∃ j, j < 2 ^ 31 ∧ x = nI j ∧ ((r = 0 ∧ 6 ≤ j) ∨ (r = 0 ∧ j < 6 ∧ j % 3 ≠ a) ∨ (r = 1 ∧ j < 6 ∧ j % 3 = a)))
def fn_R (x r : Int32) : Prop := (r = 0 ∧ x < -99) ∨ (r = 0 ∧ ¬ x < -99 ∧ 99 < x) ∨ (r = 1 ∧ ¬ x < -99 ∧ ¬ 99 < x)
def fb_R (x r : Int32) : Prop := (r = 0 ∧ x < 0 ∧ x < -1 ∧ ¬ x = -1) ∨ (r = 1 ∧ x = -1) ∨ (∃ j, j < 2 ^ 31 ∧ x = nI j ∧ ((r = 0 ∧ 6 ≤ j) ∨ (r = 1 ∧ j < 6)))
theorem fi_ex (n : Nat) (x : Int32) : ∃ r, fi_R n x r := by
  by_cases h : x < 0
  · exact ⟨0, Or.inl ⟨rfl, h⟩⟩
  · obtain ⟨j, hj, rfl⟩ := nI_of h
    by_cases z : j < n
    · exact ⟨1, Or.inr ⟨j, hj, rfl, Or.inr ⟨rfl, z⟩⟩⟩
    · exact ⟨0, Or.inr ⟨j, hj, rfl, Or.inl ⟨rfl, by omega⟩⟩⟩
theorem fm_ex (a : Nat) (x : Int32) : ∃ r, fm_R a x r := by
  by_cases h : x < 0
  · exact ⟨0, Or.inl ⟨rfl, h⟩⟩
  · obtain ⟨j, hj, rfl⟩ := nI_of h
    by_cases z : j < 6
    · by_cases y : j % 3 = a
      · exact ⟨1, Or.inr ⟨j, hj, rfl, Or.inr (Or.inr ⟨rfl, z, y⟩)⟩⟩
      · exact ⟨0, Or.inr ⟨j, hj, rfl, Or.inr (Or.inl ⟨rfl, z, y⟩)⟩⟩
    · exact ⟨0, Or.inr ⟨j, hj, rfl, Or.inl ⟨rfl, by omega⟩⟩⟩
theorem fn_ex (x : Int32) : ∃ r, fn_R x r := by
  by_cases h : x < -99
  · exact ⟨0, Or.inl ⟨rfl, h⟩⟩
  · by_cases z : 99 < x
    · exact ⟨0, Or.inr (Or.inl ⟨rfl, h, z⟩)⟩
    · exact ⟨1, Or.inr (Or.inr ⟨rfl, h, z⟩)⟩
theorem fb_m {x : Int32} (h : x < 0) (hn : ¬ x = -1) : x < -1 := by
  have e : ¬ x.toInt = -1 := fun z => hn (Int32.toInt_inj.mp (by rw [z]; decide))
  rw [Int32.lt_iff_toInt_lt] at h ⊢
  rw [show (0 : Int32).toInt = 0 from by decide] at h
  rw [show (-1 : Int32).toInt = -1 from by decide]
  omega
theorem fi_m1 {x : Int32} (h : ¬ x < 0) : (-1 : Int32) < x := by
  rw [Int32.lt_iff_toInt_lt] at h ⊢
  rw [show (0 : Int32).toInt = 0 from by decide] at h
  rw [show (-1 : Int32).toInt = -1 from by decide]
  omega
theorem fi_nm1 {x : Int32} (h : ¬ x < 0) : ¬ x < -1 := fun z => by
  rw [Int32.lt_iff_toInt_lt] at h z
  rw [show (0 : Int32).toInt = 0 from by decide] at h
  rw [show (-1 : Int32).toInt = -1 from by decide] at z
  omega
theorem fb_ex (x : Int32) : ∃ r, fb_R x r := by
  by_cases h : x < 0
  · by_cases e : x = -1
    · exact ⟨1, Or.inr (Or.inl ⟨rfl, e⟩)⟩
    · exact ⟨0, Or.inl ⟨rfl, h, fb_m h e, e⟩⟩
  · obtain ⟨j, hj, rfl⟩ := nI_of h
    by_cases z : j < 6
    · exact ⟨1, Or.inr (Or.inr ⟨j, hj, rfl, Or.inr ⟨rfl, z⟩⟩)⟩
    · exact ⟨0, Or.inr (Or.inr ⟨j, hj, rfl, Or.inl ⟨rfl, by omega⟩⟩)⟩
theorem fi_01 {n : Nat} {x r : Int32} (h : fi_R n x r) : r = 0 ∨ (r = 1 ∧ ∃ j, j < n ∧ x = nI j) := by
  rcases h with ⟨rfl, _⟩ | ⟨j, _, e, ⟨rfl, _⟩ | ⟨rfl, h⟩⟩
  · exact Or.inl rfl
  · exact Or.inl rfl
  · exact Or.inr ⟨rfl, j, h, e⟩
theorem fm_01 {n : Nat} {x r : Int32} (h : fm_R n x r) : r = 0 ∨ (r = 1 ∧ ∃ j, j < 6 ∧ j % 3 = n ∧ x = nI j) := by
  rcases h with ⟨rfl, _⟩ | ⟨j, _, e, ⟨rfl, _⟩ | ⟨rfl, _⟩ | ⟨rfl, h, h'⟩⟩
  · exact Or.inl rfl
  · exact Or.inl rfl
  · exact Or.inl rfl
  · exact Or.inr ⟨rfl, j, h, h', e⟩
theorem fn_01 {x r : Int32} (h : fn_R x r) : r = 0 ∨ r = 1 := by
  rcases h with ⟨rfl, _⟩ | ⟨rfl, _⟩ | ⟨rfl, _⟩
  · exact Or.inl rfl
  · exact Or.inl rfl
  · exact Or.inr rfl
theorem fb_01 {x r : Int32} (h : fb_R x r) : r = 0 ∨ (r = 1 ∧ (x = -1 ∨ ∃ j, j < 6 ∧ x = nI j)) := by
  rcases h with ⟨rfl, _⟩ | ⟨rfl, e⟩ | ⟨j, _, e, ⟨rfl, _⟩ | ⟨rfl, h⟩⟩
  · exact Or.inl rfl
  · exact Or.inr ⟨rfl, Or.inl e⟩
  · exact Or.inl rfl
  · exact Or.inr ⟨rfl, Or.inr ⟨j, h, e⟩⟩
theorem fi_nar {r : Int32} (h : r = 0 ∨ r = 1) : narrow .boolean (.int r) = .int r := by
  rcases h with rfl | rfl <;> rfl
theorem fm_rem {j : Nat} (h : j < 6) : nI j - nI j / 3 * 3 = nI (j % 3) := pk_rem (d := 3) (by omega) (by omega) (by omega)
theorem fx_var (Q : Int32 → Prop) {x r : Int32} (h : fi_R 6 x r) (hQ : Q r) : wpX_isVariable Q x := by
  rcases h with ⟨rfl, h⟩ | ⟨j, hj, rfl, ⟨rfl, h⟩ | ⟨rfl, h⟩⟩
  · exact br_t h hQ
  · exact br_f (nI_pos hj) (br_t (nI_le (a := 6) h hj) hQ)
  · exact br_f (nI_pos hj) (br_f (nI_ge (b := 6) h (by decide)) hQ)
theorem fx_fld (Q : Int32 → Prop) {x r : Int32} (h : fi_R 4 x r) (hQ : Q r) : wpX_isField Q x := by
  rcases h with ⟨rfl, h⟩ | ⟨j, hj, rfl, ⟨rfl, h⟩ | ⟨rfl, h⟩⟩
  · exact br_t h hQ
  · exact br_f (nI_pos hj) (br_t (nI_le (a := 4) h hj) hQ)
  · exact br_f (nI_pos hj) (br_f (nI_ge (b := 4) h (by decide)) hQ)
theorem fx_msg (Q : Int32 → Prop) {a : Nat} {x r : Int32} (ha : a < 3) (h : fm_R a x r) (hQ : Q r) : wpX_isMessage Q x (nI a) := by
  rcases h with ⟨rfl, h⟩ | ⟨j, hj, rfl, ⟨rfl, h⟩ | ⟨rfl, h, h'⟩ | ⟨rfl, h, h'⟩⟩
  · exact br_t h hQ
  · exact br_f (nI_pos hj) (br_t (nI_le (a := 6) h hj) hQ)
  · exact br_f (nI_pos hj) (br_f (nI_ge (b := 6) h (by decide)) (And.intro (by decide) (br_f (by rw [fm_rem h]; exact ay_nIne h' (by omega) (by omega)) hQ)))
  · exact br_f (nI_pos hj) (br_f (nI_ge (b := 6) h (by decide)) (And.intro (by decide) (br_t (by rw [fm_rem h, h']) hQ)))
section
variable {nc nt ns mn n na f ws vs en pc tc dc : Int32} {rs : Int64} {cp cf mt op tk tp fp sk oc bt ba rd ac af fa fw fv wt wd pr mc : Nat → Int32} {of sl wv : Nat → Int64}
variable {NC : Nat}
theorem fx_cls (Q : Int32 → Prop) {x r : Int32} (hN : NC ≤ 6) (h : fi_R NC x r) (hQ : Q r) : wpX_isClass Q (nI NC, nt, ns, mn, n, na, f, ws, vs, en, rs, pc, tc, dc, cp, cf, mt, op, tk, tp, fp, sk, oc, of, bt, ba, rd, sl, ac, af, fa, fw, fv, wt, wd, wv, pr, mc) x := by
  rcases h with ⟨rfl, h⟩ | ⟨j, hj, rfl, ⟨rfl, h⟩ | ⟨rfl, h⟩⟩
  · exact br_t h hQ
  · exact br_f (nI_pos hj) (br_t (nI_le h hj) hQ)
  · exact br_f (nI_pos hj) (br_f (nI_ge h (by omega)) hQ)
end
section
variable {yc yt ys ym no nb ya yw yv yu yo yk yp ye : Int32} {ycp ycf ymt kd ytk ytp ysk yoc ybt ybp ow ed wa yh ypr mo mb : Nat → Int32} {yof sv vr vl : Nat → Int64}
variable {NC : Nat}
theorem fy_in (Q : Int32 → Prop) {m : Nat} {x r : Int32} (hm : m < 100) (h : fi_R (m + 1) x r) (hQ : Q r) : wpY_isIn Q (yc, yt, ys, ym, no, nb, ya, yw, yv, yu, yo, yk, yp, ye, ycp, ycf, ymt, kd, ytk, ytp, ysk, yoc, yof, ybt, ybp, sv, vr, ow, ed, wa, yh, vl, ypr, mo, mb) x 0 (nI m) := by
  rcases h with ⟨rfl, h⟩ | ⟨j, hj, rfl, ⟨rfl, h⟩ | ⟨rfl, h⟩⟩
  · exact br_t h hQ
  · exact br_f (nI_pos hj) (br_t (nI_lt (by omega) hj) hQ)
  · exact br_f (nI_pos hj) (br_f (nI_nlt (by omega) (by omega)) hQ)
theorem fy_cls (Q : Int32 → Prop) {x r : Int32} (hN : NC ≤ 6) (h : fi_R NC x r) (hQ : Q r) : wpY_isIn Q (nI NC, yt, ys, ym, no, nb, ya, yw, yv, yu, yo, yk, yp, ye, ycp, ycf, ymt, kd, ytk, ytp, ysk, yoc, yof, ybt, ybp, sv, vr, ow, ed, wa, yh, vl, ypr, mo, mb) x 0 (nI NC - 1) := by
  cases NC with
  | zero =>
    rw [show (nI 0 - 1 : Int32) = -1 from by decide]
    rcases h with ⟨rfl, h⟩ | ⟨j, hj, rfl, ⟨rfl, h⟩ | ⟨rfl, h⟩⟩
    · exact br_t h hQ
    · exact br_f (nI_pos hj) (br_t (fi_m1 (nI_pos hj)) hQ)
    · exact absurd h (Nat.not_lt_zero _)
  | succ m =>
    rw [nI_pred]
    exact fy_in Q (by omega) h hQ
theorem fy_num (Q : Int32 → Prop) {x r : Int32} (h : fn_R x r) (hQ : Q r) : wpY_isIn Q (yc, yt, ys, ym, no, nb, ya, yw, yv, yu, yo, yk, yp, ye, ycp, ycf, ymt, kd, ytk, ytp, ysk, yoc, yof, ybt, ybp, sv, vr, ow, ed, wa, yh, vl, ypr, mo, mb) x (-99) 99 := by
  rcases h with ⟨rfl, h⟩ | ⟨rfl, h, h'⟩ | ⟨rfl, h, h'⟩
  · exact br_t h hQ
  · exact br_f h (br_t h' hQ)
  · exact br_f h (br_f h' hQ)
theorem fy_blk (Q : Int32 → Prop) {x r : Int32} (h : fb_R x r) (hQ : Q r) : wpY_isIn Q (yc, yt, ys, ym, no, nb, ya, yw, yv, yu, yo, yk, yp, ye, ycp, ycf, ymt, kd, ytk, ytp, ysk, yoc, yof, ybt, ybp, sv, vr, ow, ed, wa, yh, vl, ypr, mo, mb) x (-1) 5 := by
  rcases h with ⟨rfl, _, h, _⟩ | ⟨rfl, rfl⟩ | ⟨j, hj, rfl, ⟨rfl, h⟩ | ⟨rfl, h⟩⟩
  · exact br_t h hQ
  · exact br_f (by decide) (br_f (by decide) hQ)
  · exact br_f (fi_nm1 (nI_pos hj)) (br_t (nI_lt (a := 5) (by omega) hj) hQ)
  · exact br_f (fi_nm1 (nI_pos hj)) (br_f (nI_nlt (a := 5) (by omega) (by decide)) hQ)
theorem fy_msg (Q : Int32 → Prop) {a : Nat} {x r : Int32} (ha : a < 3) (h : fm_R a x r) (hQ : Q r) : wpY_isMessage Q (yc, yt, ys, ym, no, nb, ya, yw, yv, yu, yo, yk, yp, ye, ycp, ycf, ymt, kd, ytk, ytp, ysk, yoc, yof, ybt, ybp, sv, vr, ow, ed, wa, yh, vl, ypr, mo, mb) x (nI a) := by
  rcases h with ⟨rfl, h⟩ | ⟨j, hj, rfl, ⟨rfl, h⟩ | ⟨rfl, h, h'⟩ | ⟨rfl, h, h'⟩⟩
  · exact br_t h hQ
  · exact br_f (nI_pos hj) (br_t (nI_lt (a := 5) (by omega) hj) hQ)
  · exact br_f (nI_pos hj) (br_f (nI_nlt (a := 5) (by omega) (by decide)) (And.intro (by decide) (br_f (by rw [fm_rem h]; exact ay_nIne h' (by omega) (by omega)) hQ)))
  · exact br_f (nI_pos hj) (br_f (nI_nlt (a := 5) (by omega) (by decide)) (And.intro (by decide) (br_t (by rw [fm_rem h, h']) hQ)))
end
def fleaf_R (NC : Nat) (c k r : Int32) : Prop := (r = 0 ∧ c < 0) ∨ (∃ j, j < 2 ^ 31 ∧ c = nI j ∧ ((r = 0 ∧ 7 ≤ j) ∨ (j = 0 ∧ fn_R k r) ∨ (j = 1 ∧ r = 1) ∨ (j = 2 ∧ r = 1) ∨ (j = 3 ∧ fi_R 6 k r) ∨ (j = 4 ∧ fi_R 4 k r) ∨ (j = 5 ∧ fi_R NC k r) ∨ (j = 6 ∧ fm_R 0 k r)))
theorem fleaf_ex (NC : Nat) (c k : Int32) : ∃ r, fleaf_R NC c k r := by
  by_cases h : c < 0
  · exact ⟨0, Or.inl ⟨rfl, h⟩⟩
  · obtain ⟨j, hj, rfl⟩ := nI_of h
    by_cases z : 7 ≤ j
    · exact ⟨0, Or.inr ⟨j, hj, rfl, Or.inl ⟨rfl, z⟩⟩⟩
    · have cs : j = 0 ∨ j = 1 ∨ j = 2 ∨ j = 3 ∨ j = 4 ∨ j = 5 ∨ j = 6 := by omega
      rcases cs with rfl | rfl | rfl | rfl | rfl | rfl | rfl
      · obtain ⟨r, hr⟩ := fn_ex k
        exact ⟨r, Or.inr ⟨0, by omega, rfl, Or.inr (Or.inl ⟨rfl, hr⟩)⟩⟩
      · exact ⟨1, Or.inr ⟨1, by omega, rfl, Or.inr (Or.inr (Or.inl ⟨rfl, rfl⟩))⟩⟩
      · exact ⟨1, Or.inr ⟨2, by omega, rfl, Or.inr (Or.inr (Or.inr (Or.inl ⟨rfl, rfl⟩)))⟩⟩
      · obtain ⟨r, hr⟩ := fi_ex 6 k
        exact ⟨r, Or.inr ⟨3, by omega, rfl, Or.inr (Or.inr (Or.inr (Or.inr (Or.inl ⟨rfl, hr⟩))))⟩⟩
      · obtain ⟨r, hr⟩ := fi_ex 4 k
        exact ⟨r, Or.inr ⟨4, by omega, rfl, Or.inr (Or.inr (Or.inr (Or.inr (Or.inr (Or.inl ⟨rfl, hr⟩)))))⟩⟩
      · obtain ⟨r, hr⟩ := fi_ex NC k
        exact ⟨r, Or.inr ⟨5, by omega, rfl, Or.inr (Or.inr (Or.inr (Or.inr (Or.inr (Or.inr (Or.inl ⟨rfl, hr⟩))))))⟩⟩
      · obtain ⟨r, hr⟩ := fm_ex 0 k
        exact ⟨r, Or.inr ⟨6, by omega, rfl, Or.inr (Or.inr (Or.inr (Or.inr (Or.inr (Or.inr (Or.inr (⟨rfl, hr⟩)))))))⟩⟩
theorem fleaf_01 {NC : Nat} {c k r : Int32} (h : fleaf_R NC c k r) : r = 0 ∨ (r = 1 ∧ ∃ j, j < 7 ∧ c = nI j ∧ pg_v (0 + j) ∧ pg_k NC (0 + j) k) := by
  rcases h with ⟨rfl, _⟩ | ⟨j, hj, rfl, ⟨rfl, _⟩ | ⟨rfl, hr⟩ | ⟨rfl, rfl⟩ | ⟨rfl, rfl⟩ | ⟨rfl, hr⟩ | ⟨rfl, hr⟩ | ⟨rfl, hr⟩ | ⟨rfl, hr⟩⟩
  · exact Or.inl rfl
  · exact Or.inl rfl
  · rcases fn_01 hr with rfl | rfl
    · exact Or.inl rfl
    · exact Or.inr ⟨rfl, 0, by omega, rfl, by unfold pg_v; omega, ⟨fun z => absurd z (by decide), fun z => absurd z (by decide), fun z => absurd z (by decide), fun z => absurd z (by decide), fun z => absurd z (by decide), fun z => absurd z (by decide), fun z => absurd z (by decide)⟩⟩
  · exact Or.inr ⟨rfl, 1, by omega, rfl, by unfold pg_v; omega, ⟨fun z => absurd z (by decide), fun z => absurd z (by decide), fun z => absurd z (by decide), fun z => absurd z (by decide), fun z => absurd z (by decide), fun z => absurd z (by decide), fun z => absurd z (by decide)⟩⟩
  · exact Or.inr ⟨rfl, 2, by omega, rfl, by unfold pg_v; omega, ⟨fun z => absurd z (by decide), fun z => absurd z (by decide), fun z => absurd z (by decide), fun z => absurd z (by decide), fun z => absurd z (by decide), fun z => absurd z (by decide), fun z => absurd z (by decide)⟩⟩
  · rcases fi_01 hr with rfl | ⟨rfl, hk⟩
    · exact Or.inl rfl
    · exact Or.inr ⟨rfl, 3, by omega, rfl, by unfold pg_v; omega, ⟨fun _ => hk, fun z => absurd z (by decide), fun z => absurd z (by decide), fun z => absurd z (by decide), fun z => absurd z (by decide), fun z => absurd z (by decide), fun z => absurd z (by decide)⟩⟩
  · rcases fi_01 hr with rfl | ⟨rfl, hk⟩
    · exact Or.inl rfl
    · exact Or.inr ⟨rfl, 4, by omega, rfl, by unfold pg_v; omega, ⟨fun z => absurd z (by decide), fun _ => hk, fun z => absurd z (by decide), fun z => absurd z (by decide), fun z => absurd z (by decide), fun z => absurd z (by decide), fun z => absurd z (by decide)⟩⟩
  · rcases fi_01 hr with rfl | ⟨rfl, hk⟩
    · exact Or.inl rfl
    · exact Or.inr ⟨rfl, 5, by omega, rfl, by unfold pg_v; omega, ⟨fun z => absurd z (by decide), fun z => absurd z (by decide), fun _ => hk, fun z => absurd z (by decide), fun z => absurd z (by decide), fun z => absurd z (by decide), fun z => absurd z (by decide)⟩⟩
  · rcases fm_01 hr with rfl | ⟨rfl, hk⟩
    · exact Or.inl rfl
    · exact Or.inr ⟨rfl, 6, by omega, rfl, by unfold pg_v; omega, ⟨fun z => absurd z (by decide), fun z => absurd z (by decide), fun z => absurd z (by decide), fun z => absurd z (by decide), fun _ => hk, fun z => absurd z (by decide), fun z => absurd z (by decide)⟩⟩
def fone_R (NC : Nat) (c k r : Int32) : Prop := (r = 0 ∧ c < 0) ∨ (∃ j, j < 2 ^ 31 ∧ c = nI j ∧ ((r = 0 ∧ 9 ≤ j) ∨ (j = 0 ∧ fi_R 6 k r) ∨ (j = 1 ∧ fi_R 4 k r) ∨ (j = 2 ∧ fi_R NC k r) ∨ (j = 3 ∧ fb_R k r) ∨ (j = 4 ∧ r = 1) ∨ (j = 5 ∧ r = 1) ∨ (j = 6 ∧ r = 1) ∨ (j = 7 ∧ fm_R 0 k r) ∨ (j = 8 ∧ fm_R 1 k r)))
theorem fone_ex (NC : Nat) (c k : Int32) : ∃ r, fone_R NC c k r := by
  by_cases h : c < 0
  · exact ⟨0, Or.inl ⟨rfl, h⟩⟩
  · obtain ⟨j, hj, rfl⟩ := nI_of h
    by_cases z : 9 ≤ j
    · exact ⟨0, Or.inr ⟨j, hj, rfl, Or.inl ⟨rfl, z⟩⟩⟩
    · have cs : j = 0 ∨ j = 1 ∨ j = 2 ∨ j = 3 ∨ j = 4 ∨ j = 5 ∨ j = 6 ∨ j = 7 ∨ j = 8 := by omega
      rcases cs with rfl | rfl | rfl | rfl | rfl | rfl | rfl | rfl | rfl
      · obtain ⟨r, hr⟩ := fi_ex 6 k
        exact ⟨r, Or.inr ⟨0, by omega, rfl, Or.inr (Or.inl ⟨rfl, hr⟩)⟩⟩
      · obtain ⟨r, hr⟩ := fi_ex 4 k
        exact ⟨r, Or.inr ⟨1, by omega, rfl, Or.inr (Or.inr (Or.inl ⟨rfl, hr⟩))⟩⟩
      · obtain ⟨r, hr⟩ := fi_ex NC k
        exact ⟨r, Or.inr ⟨2, by omega, rfl, Or.inr (Or.inr (Or.inr (Or.inl ⟨rfl, hr⟩)))⟩⟩
      · obtain ⟨r, hr⟩ := fb_ex k
        exact ⟨r, Or.inr ⟨3, by omega, rfl, Or.inr (Or.inr (Or.inr (Or.inr (Or.inl ⟨rfl, hr⟩))))⟩⟩
      · exact ⟨1, Or.inr ⟨4, by omega, rfl, Or.inr (Or.inr (Or.inr (Or.inr (Or.inr (Or.inl ⟨rfl, rfl⟩)))))⟩⟩
      · exact ⟨1, Or.inr ⟨5, by omega, rfl, Or.inr (Or.inr (Or.inr (Or.inr (Or.inr (Or.inr (Or.inl ⟨rfl, rfl⟩))))))⟩⟩
      · exact ⟨1, Or.inr ⟨6, by omega, rfl, Or.inr (Or.inr (Or.inr (Or.inr (Or.inr (Or.inr (Or.inr (Or.inl ⟨rfl, rfl⟩)))))))⟩⟩
      · obtain ⟨r, hr⟩ := fm_ex 0 k
        exact ⟨r, Or.inr ⟨7, by omega, rfl, Or.inr (Or.inr (Or.inr (Or.inr (Or.inr (Or.inr (Or.inr (Or.inr (Or.inl ⟨rfl, hr⟩))))))))⟩⟩
      · obtain ⟨r, hr⟩ := fm_ex 1 k
        exact ⟨r, Or.inr ⟨8, by omega, rfl, Or.inr (Or.inr (Or.inr (Or.inr (Or.inr (Or.inr (Or.inr (Or.inr (Or.inr (⟨rfl, hr⟩)))))))))⟩⟩
theorem fone_01 {NC : Nat} {c k r : Int32} (h : fone_R NC c k r) : r = 0 ∨ (r = 1 ∧ ∃ j, j < 9 ∧ c = nI j ∧ pg_v (10 + j) ∧ pg_k NC (10 + j) k) := by
  rcases h with ⟨rfl, _⟩ | ⟨j, hj, rfl, ⟨rfl, _⟩ | ⟨rfl, hr⟩ | ⟨rfl, hr⟩ | ⟨rfl, hr⟩ | ⟨rfl, hr⟩ | ⟨rfl, rfl⟩ | ⟨rfl, rfl⟩ | ⟨rfl, rfl⟩ | ⟨rfl, hr⟩ | ⟨rfl, hr⟩⟩
  · exact Or.inl rfl
  · exact Or.inl rfl
  · rcases fi_01 hr with rfl | ⟨rfl, hk⟩
    · exact Or.inl rfl
    · exact Or.inr ⟨rfl, 0, by omega, rfl, by unfold pg_v; omega, ⟨fun _ => hk, fun z => absurd z (by decide), fun z => absurd z (by decide), fun z => absurd z (by decide), fun z => absurd z (by decide), fun z => absurd z (by decide), fun z => absurd z (by decide)⟩⟩
  · rcases fi_01 hr with rfl | ⟨rfl, hk⟩
    · exact Or.inl rfl
    · exact Or.inr ⟨rfl, 1, by omega, rfl, by unfold pg_v; omega, ⟨fun z => absurd z (by decide), fun _ => hk, fun z => absurd z (by decide), fun z => absurd z (by decide), fun z => absurd z (by decide), fun z => absurd z (by decide), fun z => absurd z (by decide)⟩⟩
  · rcases fi_01 hr with rfl | ⟨rfl, hk⟩
    · exact Or.inl rfl
    · exact Or.inr ⟨rfl, 2, by omega, rfl, by unfold pg_v; omega, ⟨fun z => absurd z (by decide), fun z => absurd z (by decide), fun z => absurd z (by decide), fun z => absurd z (by decide), fun z => absurd z (by decide), fun z => absurd z (by decide), fun z => absurd z (by decide)⟩⟩
  · rcases fb_01 hr with rfl | ⟨rfl, hk⟩
    · exact Or.inl rfl
    · exact Or.inr ⟨rfl, 3, by omega, rfl, by unfold pg_v; omega, ⟨fun z => absurd z (by decide), fun z => absurd z (by decide), fun z => absurd z (by decide), fun _ => hk, fun z => absurd z (by decide), fun z => absurd z (by decide), fun z => absurd z (by decide)⟩⟩
  · exact Or.inr ⟨rfl, 4, by omega, rfl, by unfold pg_v; omega, ⟨fun z => absurd z (by decide), fun z => absurd z (by decide), fun z => absurd z (by decide), fun z => absurd z (by decide), fun z => absurd z (by decide), fun z => absurd z (by decide), fun z => absurd z (by decide)⟩⟩
  · exact Or.inr ⟨rfl, 5, by omega, rfl, by unfold pg_v; omega, ⟨fun z => absurd z (by decide), fun z => absurd z (by decide), fun z => absurd z (by decide), fun z => absurd z (by decide), fun z => absurd z (by decide), fun z => absurd z (by decide), fun z => absurd z (by decide)⟩⟩
  · exact Or.inr ⟨rfl, 6, by omega, rfl, by unfold pg_v; omega, ⟨fun z => absurd z (by decide), fun z => absurd z (by decide), fun z => absurd z (by decide), fun z => absurd z (by decide), fun z => absurd z (by decide), fun z => absurd z (by decide), fun z => absurd z (by decide)⟩⟩
  · rcases fm_01 hr with rfl | ⟨rfl, hk⟩
    · exact Or.inl rfl
    · exact Or.inr ⟨rfl, 7, by omega, rfl, by unfold pg_v; omega, ⟨fun z => absurd z (by decide), fun z => absurd z (by decide), fun z => absurd z (by decide), fun z => absurd z (by decide), fun _ => hk, fun z => absurd z (by decide), fun z => absurd z (by decide)⟩⟩
  · rcases fm_01 hr with rfl | ⟨rfl, hk⟩
    · exact Or.inl rfl
    · exact Or.inr ⟨rfl, 8, by omega, rfl, by unfold pg_v; omega, ⟨fun z => absurd z (by decide), fun z => absurd z (by decide), fun z => absurd z (by decide), fun z => absurd z (by decide), fun z => absurd z (by decide), fun _ => hk, fun z => absurd z (by decide)⟩⟩
def ftwo_R (NC : Nat) (c k r : Int32) : Prop := (r = 0 ∧ c < 0) ∨ (∃ j, j < 2 ^ 31 ∧ c = nI j ∧ ((r = 0 ∧ 10 ≤ j) ∨ (j = 0 ∧ r = 1) ∨ (j = 1 ∧ r = 1) ∨ (j = 2 ∧ r = 1) ∨ (j = 3 ∧ r = 1) ∨ (j = 4 ∧ r = 1) ∨ (j = 5 ∧ r = 1) ∨ (j = 6 ∧ r = 1) ∨ (j = 7 ∧ r = 1) ∨ (j = 8 ∧ fm_R 1 k r) ∨ (j = 9 ∧ fm_R 2 k r)))
theorem ftwo_ex (NC : Nat) (c k : Int32) : ∃ r, ftwo_R NC c k r := by
  by_cases h : c < 0
  · exact ⟨0, Or.inl ⟨rfl, h⟩⟩
  · obtain ⟨j, hj, rfl⟩ := nI_of h
    by_cases z : 10 ≤ j
    · exact ⟨0, Or.inr ⟨j, hj, rfl, Or.inl ⟨rfl, z⟩⟩⟩
    · have cs : j = 0 ∨ j = 1 ∨ j = 2 ∨ j = 3 ∨ j = 4 ∨ j = 5 ∨ j = 6 ∨ j = 7 ∨ j = 8 ∨ j = 9 := by omega
      rcases cs with rfl | rfl | rfl | rfl | rfl | rfl | rfl | rfl | rfl | rfl
      · exact ⟨1, Or.inr ⟨0, by omega, rfl, Or.inr (Or.inl ⟨rfl, rfl⟩)⟩⟩
      · exact ⟨1, Or.inr ⟨1, by omega, rfl, Or.inr (Or.inr (Or.inl ⟨rfl, rfl⟩))⟩⟩
      · exact ⟨1, Or.inr ⟨2, by omega, rfl, Or.inr (Or.inr (Or.inr (Or.inl ⟨rfl, rfl⟩)))⟩⟩
      · exact ⟨1, Or.inr ⟨3, by omega, rfl, Or.inr (Or.inr (Or.inr (Or.inr (Or.inl ⟨rfl, rfl⟩))))⟩⟩
      · exact ⟨1, Or.inr ⟨4, by omega, rfl, Or.inr (Or.inr (Or.inr (Or.inr (Or.inr (Or.inl ⟨rfl, rfl⟩)))))⟩⟩
      · exact ⟨1, Or.inr ⟨5, by omega, rfl, Or.inr (Or.inr (Or.inr (Or.inr (Or.inr (Or.inr (Or.inl ⟨rfl, rfl⟩))))))⟩⟩
      · exact ⟨1, Or.inr ⟨6, by omega, rfl, Or.inr (Or.inr (Or.inr (Or.inr (Or.inr (Or.inr (Or.inr (Or.inl ⟨rfl, rfl⟩)))))))⟩⟩
      · exact ⟨1, Or.inr ⟨7, by omega, rfl, Or.inr (Or.inr (Or.inr (Or.inr (Or.inr (Or.inr (Or.inr (Or.inr (Or.inl ⟨rfl, rfl⟩))))))))⟩⟩
      · obtain ⟨r, hr⟩ := fm_ex 1 k
        exact ⟨r, Or.inr ⟨8, by omega, rfl, Or.inr (Or.inr (Or.inr (Or.inr (Or.inr (Or.inr (Or.inr (Or.inr (Or.inr (Or.inl ⟨rfl, hr⟩)))))))))⟩⟩
      · obtain ⟨r, hr⟩ := fm_ex 2 k
        exact ⟨r, Or.inr ⟨9, by omega, rfl, Or.inr (Or.inr (Or.inr (Or.inr (Or.inr (Or.inr (Or.inr (Or.inr (Or.inr (Or.inr (⟨rfl, hr⟩))))))))))⟩⟩
theorem ftwo_01 {NC : Nat} {c k r : Int32} (h : ftwo_R NC c k r) : r = 0 ∨ (r = 1 ∧ ∃ j, j < 10 ∧ c = nI j ∧ pg_v (20 + j) ∧ pg_k NC (20 + j) k) := by
  rcases h with ⟨rfl, _⟩ | ⟨j, hj, rfl, ⟨rfl, _⟩ | ⟨rfl, rfl⟩ | ⟨rfl, rfl⟩ | ⟨rfl, rfl⟩ | ⟨rfl, rfl⟩ | ⟨rfl, rfl⟩ | ⟨rfl, rfl⟩ | ⟨rfl, rfl⟩ | ⟨rfl, rfl⟩ | ⟨rfl, hr⟩ | ⟨rfl, hr⟩⟩
  · exact Or.inl rfl
  · exact Or.inl rfl
  · exact Or.inr ⟨rfl, 0, by omega, rfl, by unfold pg_v; omega, ⟨fun z => absurd z (by decide), fun z => absurd z (by decide), fun z => absurd z (by decide), fun z => absurd z (by decide), fun z => absurd z (by decide), fun z => absurd z (by decide), fun z => absurd z (by decide)⟩⟩
  · exact Or.inr ⟨rfl, 1, by omega, rfl, by unfold pg_v; omega, ⟨fun z => absurd z (by decide), fun z => absurd z (by decide), fun z => absurd z (by decide), fun z => absurd z (by decide), fun z => absurd z (by decide), fun z => absurd z (by decide), fun z => absurd z (by decide)⟩⟩
  · exact Or.inr ⟨rfl, 2, by omega, rfl, by unfold pg_v; omega, ⟨fun z => absurd z (by decide), fun z => absurd z (by decide), fun z => absurd z (by decide), fun z => absurd z (by decide), fun z => absurd z (by decide), fun z => absurd z (by decide), fun z => absurd z (by decide)⟩⟩
  · exact Or.inr ⟨rfl, 3, by omega, rfl, by unfold pg_v; omega, ⟨fun z => absurd z (by decide), fun z => absurd z (by decide), fun z => absurd z (by decide), fun z => absurd z (by decide), fun z => absurd z (by decide), fun z => absurd z (by decide), fun z => absurd z (by decide)⟩⟩
  · exact Or.inr ⟨rfl, 4, by omega, rfl, by unfold pg_v; omega, ⟨fun z => absurd z (by decide), fun z => absurd z (by decide), fun z => absurd z (by decide), fun z => absurd z (by decide), fun z => absurd z (by decide), fun z => absurd z (by decide), fun z => absurd z (by decide)⟩⟩
  · exact Or.inr ⟨rfl, 5, by omega, rfl, by unfold pg_v; omega, ⟨fun z => absurd z (by decide), fun z => absurd z (by decide), fun z => absurd z (by decide), fun z => absurd z (by decide), fun z => absurd z (by decide), fun z => absurd z (by decide), fun z => absurd z (by decide)⟩⟩
  · exact Or.inr ⟨rfl, 6, by omega, rfl, by unfold pg_v; omega, ⟨fun z => absurd z (by decide), fun z => absurd z (by decide), fun z => absurd z (by decide), fun z => absurd z (by decide), fun z => absurd z (by decide), fun z => absurd z (by decide), fun z => absurd z (by decide)⟩⟩
  · exact Or.inr ⟨rfl, 7, by omega, rfl, by unfold pg_v; omega, ⟨fun z => absurd z (by decide), fun z => absurd z (by decide), fun z => absurd z (by decide), fun z => absurd z (by decide), fun z => absurd z (by decide), fun z => absurd z (by decide), fun z => absurd z (by decide)⟩⟩
  · rcases fm_01 hr with rfl | ⟨rfl, hk⟩
    · exact Or.inl rfl
    · exact Or.inr ⟨rfl, 8, by omega, rfl, by unfold pg_v; omega, ⟨fun z => absurd z (by decide), fun z => absurd z (by decide), fun z => absurd z (by decide), fun z => absurd z (by decide), fun z => absurd z (by decide), fun _ => hk, fun z => absurd z (by decide)⟩⟩
  · rcases fm_01 hr with rfl | ⟨rfl, hk⟩
    · exact Or.inl rfl
    · exact Or.inr ⟨rfl, 9, by omega, rfl, by unfold pg_v; omega, ⟨fun z => absurd z (by decide), fun z => absurd z (by decide), fun z => absurd z (by decide), fun z => absurd z (by decide), fun z => absurd z (by decide), fun z => absurd z (by decide), fun _ => hk⟩⟩
def fthree_R (NC : Nat) (c k r : Int32) : Prop := (r = 0 ∧ c < 0) ∨ (∃ j, j < 2 ^ 31 ∧ c = nI j ∧ ((r = 0 ∧ 2 ≤ j) ∨ (j = 0 ∧ r = 1) ∨ (j = 1 ∧ fm_R 2 k r)))
theorem fthree_ex (NC : Nat) (c k : Int32) : ∃ r, fthree_R NC c k r := by
  by_cases h : c < 0
  · exact ⟨0, Or.inl ⟨rfl, h⟩⟩
  · obtain ⟨j, hj, rfl⟩ := nI_of h
    by_cases z : 2 ≤ j
    · exact ⟨0, Or.inr ⟨j, hj, rfl, Or.inl ⟨rfl, z⟩⟩⟩
    · have cs : j = 0 ∨ j = 1 := by omega
      rcases cs with rfl | rfl
      · exact ⟨1, Or.inr ⟨0, by omega, rfl, Or.inr (Or.inl ⟨rfl, rfl⟩)⟩⟩
      · obtain ⟨r, hr⟩ := fm_ex 2 k
        exact ⟨r, Or.inr ⟨1, by omega, rfl, Or.inr (Or.inr (⟨rfl, hr⟩))⟩⟩
theorem fthree_01 {NC : Nat} {c k r : Int32} (h : fthree_R NC c k r) : r = 0 ∨ (r = 1 ∧ ∃ j, j < 2 ∧ c = nI j ∧ pg_v (30 + j) ∧ pg_k NC (30 + j) k) := by
  rcases h with ⟨rfl, _⟩ | ⟨j, hj, rfl, ⟨rfl, _⟩ | ⟨rfl, rfl⟩ | ⟨rfl, hr⟩⟩
  · exact Or.inl rfl
  · exact Or.inl rfl
  · exact Or.inr ⟨rfl, 0, by omega, rfl, by unfold pg_v; omega, ⟨fun z => absurd z (by decide), fun z => absurd z (by decide), fun z => absurd z (by decide), fun z => absurd z (by decide), fun z => absurd z (by decide), fun z => absurd z (by decide), fun z => absurd z (by decide)⟩⟩
  · rcases fm_01 hr with rfl | ⟨rfl, hk⟩
    · exact Or.inl rfl
    · exact Or.inr ⟨rfl, 1, by omega, rfl, by unfold pg_v; omega, ⟨fun z => absurd z (by decide), fun z => absurd z (by decide), fun z => absurd z (by decide), fun z => absurd z (by decide), fun z => absurd z (by decide), fun z => absurd z (by decide), fun _ => hk⟩⟩
end
section
/-! the checks of both sides, walked -/
theorem fi_b {n : Nat} {x r : Int32} (h : fi_R n x r) : r = 0 ∨ r = 1 := by
  rcases fi_01 h with h | h
  · exact Or.inl h
  · exact Or.inr h.1
theorem fm_b {n : Nat} {x r : Int32} (h : fm_R n x r) : r = 0 ∨ r = 1 := by
  rcases fm_01 h with h | h
  · exact Or.inl h
  · exact Or.inr h.1
theorem fb_b {x r : Int32} (h : fb_R x r) : r = 0 ∨ r = 1 := by
  rcases fb_01 h with h | h
  · exact Or.inl h
  · exact Or.inr h.1
theorem na_neg {c : Int32} (h : c < 0) : c < 4 := by
  rw [Int32.lt_iff_toInt_lt] at h ⊢
  rw [show (0 : Int32).toInt = 0 from by decide] at h
  rw [show (4 : Int32).toInt = 4 from by decide]
  omega
theorem fy_ne {c : Int32} {j : Nat} (h : c < 0) (hj : j < 100) : ¬ c = nI j := fun e => by
  subst e
  exact nI_pos (by omega) h
theorem fx_tf (Q : Int32 → Prop) {r : Int32} (h : r = 0 ∨ r = 1) (hQ : Q r) : (r = 0 → Q 0) ∧ (¬ r = 0 → Q 1) := by
  rcases h with rfl | rfl
  · exact br_t rfl hQ
  · exact br_f (by decide) hQ
theorem fx_blk (Q : Int32 → Prop) {x r : Int32} (h : fb_R x r) (hQ : Q r) : (x = -1 → Q 1) ∧ (¬ x = -1 → wpX_isVariable (fun r => (r = 0 → Q 0) ∧ (¬ r = 0 → Q 1)) x) := by
  rcases h with ⟨rfl, h, _, h'⟩ | ⟨rfl, rfl⟩ | ⟨j, hj, rfl, ⟨rfl, h⟩ | ⟨rfl, h⟩⟩
  · exact br_f h' (fx_var _ (Or.inl ⟨rfl, h⟩) (br_t rfl hQ))
  · exact br_t rfl hQ
  · exact br_f (ax_nIm1 hj) (fx_var _ (Or.inr ⟨j, hj, rfl, Or.inl ⟨rfl, h⟩⟩) (br_t rfl hQ))
  · exact br_f (ax_nIm1 hj) (fx_var _ (Or.inr ⟨j, hj, rfl, Or.inr ⟨rfl, h⟩⟩) (br_f (by decide) hQ))
theorem fx_num (Q : Int32 → Prop) {x r : Int32} (h : fn_R x r) (hQ : Q r) : (x < -99 → Q 0) ∧ (¬ x < -99 → (99 < x → Q 0) ∧ (¬ 99 < x → Q 1)) := by
  rcases h with ⟨rfl, h⟩ | ⟨rfl, h, h'⟩ | ⟨rfl, h, h'⟩
  · exact br_t h hQ
  · exact br_f h (br_t h' hQ)
  · exact br_f h (br_f h' hQ)
section
variable {nc nt ns mn n na f ws vs en pc tc dc : Int32} {rs : Int64} {cp cf mt op tk tp fp sk oc bt ba rd ac af fa fw fv wt wd pr mc : Nat → Int32} {of sl wv : Nat → Int64}
variable {NC : Nat}
theorem fx_leaf (Q : Int32 → Prop) {c k r : Int32} (hN : NC ≤ 6) (h : fleaf_R NC c k r) (hQ : Q r) : wpX_leafFits Q (nI NC, nt, ns, mn, n, na, f, ws, vs, en, rs, pc, tc, dc, cp, cf, mt, op, tk, tp, fp, sk, oc, of, bt, ba, rd, sl, ac, af, fa, fw, fv, wt, wd, wv, pr, mc) c k := by
  rcases h with ⟨rfl, h⟩ | ⟨j, hj, rfl, ⟨rfl, h⟩ | ⟨rfl, hr⟩ | ⟨rfl, rfl⟩ | ⟨rfl, rfl⟩ | ⟨rfl, hr⟩ | ⟨rfl, hr⟩ | ⟨rfl, hr⟩ | ⟨rfl, hr⟩⟩
  · exact br_t h hQ
  · exact br_f (nI_pos hj) (br_t (nI_lt (a := 6) (by omega) hj) hQ)
  · exact br_f (by decide) (br_f (by decide) (br_t rfl (fx_num Q hr hQ)))
  · exact br_f (by decide) (br_f (by decide) (br_f (by decide) (br_t rfl (hQ))))
  · exact br_f (by decide) (br_f (by decide) (br_f (by decide) (br_f (by decide) (br_t rfl (hQ)))))
  · exact br_f (by decide) (br_f (by decide) (br_f (by decide) (br_f (by decide) (br_f (by decide) (br_t rfl (fx_var _ hr (And.intro (fi_nar (fi_b hr)) hQ)))))))
  · exact br_f (by decide) (br_f (by decide) (br_f (by decide) (br_f (by decide) (br_f (by decide) (br_f (by decide) (br_t rfl (fx_fld _ hr (And.intro (fi_nar (fi_b hr)) hQ))))))))
  · exact br_f (by decide) (br_f (by decide) (br_f (by decide) (br_f (by decide) (br_f (by decide) (br_f (by decide) (br_f (by decide) (br_t rfl (fx_cls _ hN hr (And.intro (fi_nar (fi_b hr)) hQ)))))))))
  · exact br_f (by decide) (br_f (by decide) (br_f (by decide) (br_f (by decide) (br_f (by decide) (br_f (by decide) (br_f (by decide) (br_f (by decide) (br_t rfl (fx_msg (a := 0) _ (by decide) hr (And.intro (fi_nar (fm_b hr)) hQ))))))))))
theorem fx_one (Q : Int32 → Prop) {c k r : Int32} (hN : NC ≤ 6) (h : fone_R NC c k r) (hQ : Q r) : wpX_oneFits Q (nI NC, nt, ns, mn, n, na, f, ws, vs, en, rs, pc, tc, dc, cp, cf, mt, op, tk, tp, fp, sk, oc, of, bt, ba, rd, sl, ac, af, fa, fw, fv, wt, wd, wv, pr, mc) c k := by
  rcases h with ⟨rfl, h⟩ | ⟨j, hj, rfl, ⟨rfl, h⟩ | ⟨rfl, hr⟩ | ⟨rfl, hr⟩ | ⟨rfl, hr⟩ | ⟨rfl, hr⟩ | ⟨rfl, rfl⟩ | ⟨rfl, rfl⟩ | ⟨rfl, rfl⟩ | ⟨rfl, hr⟩ | ⟨rfl, hr⟩⟩
  · exact br_t h hQ
  · exact br_f (nI_pos hj) (br_t (nI_lt (a := 8) (by omega) hj) hQ)
  · exact br_f (by decide) (br_f (by decide) (br_t rfl (fx_var _ hr (And.intro (fi_nar (fi_b hr)) hQ))))
  · exact br_f (by decide) (br_f (by decide) (br_f (by decide) (br_t rfl (fx_fld _ hr (And.intro (fi_nar (fi_b hr)) hQ)))))
  · exact br_f (by decide) (br_f (by decide) (br_f (by decide) (br_f (by decide) (br_t rfl (fx_cls _ hN hr (And.intro (fi_nar (fi_b hr)) hQ))))))
  · exact br_f (by decide) (br_f (by decide) (br_f (by decide) (br_f (by decide) (br_f (by decide) (br_t rfl (fx_blk Q hr hQ))))))
  · exact br_f (by decide) (br_f (by decide) (br_f (by decide) (br_f (by decide) (br_f (by decide) (br_f (by decide) (br_t rfl (hQ)))))))
  · exact br_f (by decide) (br_f (by decide) (br_f (by decide) (br_f (by decide) (br_f (by decide) (br_f (by decide) (br_f (by decide) (br_t rfl (hQ))))))))
  · exact br_f (by decide) (br_f (by decide) (br_f (by decide) (br_f (by decide) (br_f (by decide) (br_f (by decide) (br_f (by decide) (br_f (by decide) (br_t rfl (hQ)))))))))
  · exact br_f (by decide) (br_f (by decide) (br_f (by decide) (br_f (by decide) (br_f (by decide) (br_f (by decide) (br_f (by decide) (br_f (by decide) (br_f (by decide) (br_t rfl (fx_msg (a := 0) _ (by decide) hr (And.intro (fi_nar (fm_b hr)) hQ)))))))))))
  · exact br_f (by decide) (br_f (by decide) (br_f (by decide) (br_f (by decide) (br_f (by decide) (br_f (by decide) (br_f (by decide) (br_f (by decide) (br_f (by decide) (br_f (by decide) (br_t rfl (fx_msg (a := 1) _ (by decide) hr (And.intro (fi_nar (fm_b hr)) hQ))))))))))))
theorem fx_two (Q : Int32 → Prop) {c k r : Int32} (hN : NC ≤ 6) (h : ftwo_R NC c k r) (hQ : Q r) : wpX_twoFits Q c k := by
  rcases h with ⟨rfl, h⟩ | ⟨j, hj, rfl, ⟨rfl, h⟩ | ⟨rfl, rfl⟩ | ⟨rfl, rfl⟩ | ⟨rfl, rfl⟩ | ⟨rfl, rfl⟩ | ⟨rfl, rfl⟩ | ⟨rfl, rfl⟩ | ⟨rfl, rfl⟩ | ⟨rfl, rfl⟩ | ⟨rfl, hr⟩ | ⟨rfl, hr⟩⟩
  · exact br_f (fy_ne (j := 8) h (by decide)) (br_f (fy_ne (j := 9) h (by decide)) (br_t h hQ))
  · exact br_f (ay_nIne (b := 8) (by omega) hj (by decide)) (br_f (ay_nIne (b := 9) (by omega) hj (by decide)) (br_f (nI_pos hj) (br_t (nI_lt (a := 7) (by omega) hj) hQ)))
  · exact br_f (by decide) (br_f (by decide) (br_f (by decide) (br_f (by decide) hQ)))
  · exact br_f (by decide) (br_f (by decide) (br_f (by decide) (br_f (by decide) hQ)))
  · exact br_f (by decide) (br_f (by decide) (br_f (by decide) (br_f (by decide) hQ)))
  · exact br_f (by decide) (br_f (by decide) (br_f (by decide) (br_f (by decide) hQ)))
  · exact br_f (by decide) (br_f (by decide) (br_f (by decide) (br_f (by decide) hQ)))
  · exact br_f (by decide) (br_f (by decide) (br_f (by decide) (br_f (by decide) hQ)))
  · exact br_f (by decide) (br_f (by decide) (br_f (by decide) (br_f (by decide) hQ)))
  · exact br_f (by decide) (br_f (by decide) (br_f (by decide) (br_f (by decide) hQ)))
  · exact br_t rfl (fx_msg (a := 1) _ (by decide) hr (And.intro (fi_nar (fm_b hr)) hQ))
  · exact br_f (by decide) (br_t rfl (fx_msg (a := 2) _ (by decide) hr (And.intro (fi_nar (fm_b hr)) hQ)))
theorem fx_three (Q : Int32 → Prop) {c k r : Int32} (hN : NC ≤ 6) (h : fthree_R NC c k r) (hQ : Q r) : wpX_threeFits Q c k := by
  rcases h with ⟨rfl, h⟩ | ⟨j, hj, rfl, ⟨rfl, h⟩ | ⟨rfl, rfl⟩ | ⟨rfl, hr⟩⟩
  · exact br_f (fy_ne (j := 0) h (by decide)) (br_f (fy_ne (j := 1) h (by decide)) hQ)
  · exact br_f (ay_nIne (b := 0) (by omega) hj (by decide)) (br_f (ay_nIne (b := 1) (by omega) hj (by decide)) hQ)
  · exact br_t rfl hQ
  · exact br_f (by decide) (br_t rfl (fx_msg (a := 2) _ (by decide) hr (fx_tf Q (fm_b hr) hQ)))
end
section
variable {yc yt ys ym no nb ya yw yv yu yo yk yp ye : Int32} {ycp ycf ymt kd ytk ytp ysk yoc ybt ybp ow ed wa yh ypr mo mb : Nat → Int32} {yof sv vr vl : Nat → Int64}
variable {NC : Nat}
theorem fy_leaf (post : Int32 → SY → Prop) {c k r : Int32} (hN : NC ≤ 6) (h : fleaf_R NC c k r) (hM : wY_leaf_96 post c k r (nI NC) yt ys ym no nb ya yw yv yu yo yk yp ye ycp ycf ymt kd ytk ytp ysk yoc yof ybt ybp sv vr ow ed wa yh vl ypr mo mb) : wpY_leaf post (nI NC, yt, ys, ym, no, nb, ya, yw, yv, yu, yo, yk, yp, ye, ycp, ycf, ymt, kd, ytk, ytp, ysk, yoc, yof, ybt, ybp, sv, vr, ow, ed, wa, yh, vl, ypr, mo, mb) c k := by
  rcases h with ⟨rfl, h⟩ | ⟨j, hj, rfl, ⟨rfl, h⟩ | ⟨rfl, hr⟩ | ⟨rfl, rfl⟩ | ⟨rfl, rfl⟩ | ⟨rfl, hr⟩ | ⟨rfl, hr⟩ | ⟨rfl, hr⟩ | ⟨rfl, hr⟩⟩
  · exact (br_f (fy_ne (j := 1) h (by decide)) (br_f (fy_ne (j := 2) h (by decide)) (br_f (fy_ne (j := 0) h (by decide)) (br_f (fy_ne (j := 3) h (by decide)) (br_f (fy_ne (j := 4) h (by decide)) (br_f (fy_ne (j := 5) h (by decide)) (br_f (fy_ne (j := 6) h (by decide)) hM)))))))
  · exact (br_f (ay_nIne (b := 1) (by omega) hj (by decide)) (br_f (ay_nIne (b := 2) (by omega) hj (by decide)) (br_f (ay_nIne (b := 0) (by omega) hj (by decide)) (br_f (ay_nIne (b := 3) (by omega) hj (by decide)) (br_f (ay_nIne (b := 4) (by omega) hj (by decide)) (br_f (ay_nIne (b := 5) (by omega) hj (by decide)) (br_f (ay_nIne (b := 6) (by omega) hj (by decide)) hM)))))))
  · rcases fn_01 hr with rfl | rfl
    · exact (br_f (by decide) (br_f (by decide) (br_t rfl (fy_num _ hr (br_t rfl (br_f (by decide) (br_f (by decide) (br_f (by decide) (br_f (by decide) hM)))))))))
    · exact (br_f (by decide) (br_f (by decide) (br_t rfl (fy_num _ hr (br_f (by decide) hM)))))
  · exact (br_t rfl hM)
  · exact (br_f (by decide) (br_t rfl hM))
  · rcases fi_b hr with rfl | rfl
    · exact (br_f (by decide) (br_f (by decide) (br_f (by decide) (br_t rfl (fy_in (m := 5) _ (by decide) hr (br_t rfl (br_f (by decide) (br_f (by decide) (br_f (by decide) hM)))))))))
    · exact (br_f (by decide) (br_f (by decide) (br_f (by decide) (br_t rfl (fy_in (m := 5) _ (by decide) hr (br_f (by decide) hM))))))
  · rcases fi_b hr with rfl | rfl
    · exact (br_f (by decide) (br_f (by decide) (br_f (by decide) (br_f (by decide) (br_t rfl (fy_in (m := 3) _ (by decide) hr (br_t rfl (br_f (by decide) (br_f (by decide) hM)))))))))
    · exact (br_f (by decide) (br_f (by decide) (br_f (by decide) (br_f (by decide) (br_t rfl (fy_in (m := 3) _ (by decide) hr (br_f (by decide) hM)))))))
  · rcases fi_b hr with rfl | rfl
    · exact (br_f (by decide) (br_f (by decide) (br_f (by decide) (br_f (by decide) (br_f (by decide) (br_t rfl (fy_cls _ hN hr (br_t rfl (br_f (by decide) hM)))))))))
    · exact (br_f (by decide) (br_f (by decide) (br_f (by decide) (br_f (by decide) (br_f (by decide) (br_t rfl (fy_cls _ hN hr (br_f (by decide) hM))))))))
  · rcases fm_b hr with rfl | rfl
    · exact (br_f (by decide) (br_f (by decide) (br_f (by decide) (br_f (by decide) (br_f (by decide) (br_f (by decide) (br_t rfl (fy_msg (a := 0) _ (by decide) hr (br_t rfl hM)))))))))
    · exact (br_f (by decide) (br_f (by decide) (br_f (by decide) (br_f (by decide) (br_f (by decide) (br_f (by decide) (br_t rfl (fy_msg (a := 0) _ (by decide) hr (br_f (by decide) hM)))))))))
theorem fy_one (post : Int32 → SY → Prop) {c k r : Int32} (hN : NC ≤ 6) (h : fone_R NC c k r) (hM : wY_one_110 post c k r (nI NC) yt ys ym no nb ya yw yv yu yo yk yp ye ycp ycf ymt kd ytk ytp ysk yoc yof ybt ybp sv vr ow ed wa yh vl ypr mo mb) : wpY_one post (nI NC, yt, ys, ym, no, nb, ya, yw, yv, yu, yo, yk, yp, ye, ycp, ycf, ymt, kd, ytk, ytp, ysk, yoc, yof, ybt, ybp, sv, vr, ow, ed, wa, yh, vl, ypr, mo, mb) c k := by
  rcases h with ⟨rfl, h⟩ | ⟨j, hj, rfl, ⟨rfl, h⟩ | ⟨rfl, hr⟩ | ⟨rfl, hr⟩ | ⟨rfl, hr⟩ | ⟨rfl, hr⟩ | ⟨rfl, rfl⟩ | ⟨rfl, rfl⟩ | ⟨rfl, rfl⟩ | ⟨rfl, hr⟩ | ⟨rfl, hr⟩⟩
  · exact br_t (na_neg h) (br_t rfl (br_f (fy_ne (j := 0) h (by decide)) (br_f (fy_ne (j := 1) h (by decide)) (br_f (fy_ne (j := 2) h (by decide)) (br_f (fy_ne (j := 3) h (by decide)) (br_f (fy_ne (j := 7) h (by decide)) (br_f (fy_ne (j := 8) h (by decide)) hM)))))))
  · exact br_f (nI_nlt (b := 4) (by omega) hj) (br_t (nI_lt (a := 6) (by omega) hj) (br_t rfl (br_f (ay_nIne (b := 0) (by omega) hj (by decide)) (br_f (ay_nIne (b := 1) (by omega) hj (by decide)) (br_f (ay_nIne (b := 2) (by omega) hj (by decide)) (br_f (ay_nIne (b := 3) (by omega) hj (by decide)) (br_f (ay_nIne (b := 7) (by omega) hj (by decide)) (br_f (ay_nIne (b := 8) (by omega) hj (by decide)) hM))))))))
  · rcases fi_b hr with rfl | rfl
    · exact br_t (by decide) (br_t rfl (br_t rfl (fy_in (m := 5) _ (by decide) hr (br_t rfl (br_f (by decide) (br_f (by decide) (br_f (by decide) (br_f (by decide) (br_f (by decide) hM)))))))))
    · exact br_t (by decide) (br_t rfl (br_t rfl (fy_in (m := 5) _ (by decide) hr (br_f (by decide) hM))))
  · rcases fi_b hr with rfl | rfl
    · exact br_t (by decide) (br_t rfl (br_f (by decide) (br_t rfl (fy_in (m := 3) _ (by decide) hr (br_t rfl (br_f (by decide) (br_f (by decide) (br_f (by decide) (br_f (by decide) hM)))))))))
    · exact br_t (by decide) (br_t rfl (br_f (by decide) (br_t rfl (fy_in (m := 3) _ (by decide) hr (br_f (by decide) hM)))))
  · rcases fi_b hr with rfl | rfl
    · exact br_t (by decide) (br_t rfl (br_f (by decide) (br_f (by decide) (br_t rfl (fy_cls _ hN hr (br_t rfl (br_f (by decide) (br_f (by decide) (br_f (by decide) hM)))))))))
    · exact br_t (by decide) (br_t rfl (br_f (by decide) (br_f (by decide) (br_t rfl (fy_cls _ hN hr (br_f (by decide) hM))))))
  · rcases fb_b hr with rfl | rfl
    · exact br_t (by decide) (br_t rfl (br_f (by decide) (br_f (by decide) (br_f (by decide) (br_t rfl (fy_blk _ hr (br_t rfl (br_f (by decide) (br_f (by decide) hM)))))))))
    · exact br_t (by decide) (br_t rfl (br_f (by decide) (br_f (by decide) (br_f (by decide) (br_t rfl (fy_blk _ hr (br_f (by decide) hM)))))))
  · exact br_f (by decide) (br_f (by decide) (br_f (by decide) hM))
  · exact br_f (by decide) (br_f (by decide) (br_f (by decide) hM))
  · exact br_f (by decide) (br_f (by decide) (br_f (by decide) hM))
  · rcases fm_b hr with rfl | rfl
    · exact br_f (by decide) (br_t (by decide) (br_t rfl (br_f (by decide) (br_f (by decide) (br_f (by decide) (br_f (by decide) (br_t rfl (fy_msg (a := 0) _ (by decide) hr (br_t rfl (br_f (by decide) hM))))))))))
    · exact br_f (by decide) (br_t (by decide) (br_t rfl (br_f (by decide) (br_f (by decide) (br_f (by decide) (br_f (by decide) (br_t rfl (fy_msg (a := 0) _ (by decide) hr (br_f (by decide) hM)))))))))
  · rcases fm_b hr with rfl | rfl
    · exact br_f (by decide) (br_t (by decide) (br_t rfl (br_f (by decide) (br_f (by decide) (br_f (by decide) (br_f (by decide) (br_f (by decide) (br_t rfl (fy_msg (a := 1) _ (by decide) hr (br_t rfl hM))))))))))
    · exact br_f (by decide) (br_t (by decide) (br_t rfl (br_f (by decide) (br_f (by decide) (br_f (by decide) (br_f (by decide) (br_f (by decide) (br_t rfl (fy_msg (a := 1) _ (by decide) hr (br_f (by decide) hM))))))))))
theorem fy_two (post : Int32 → SY → Prop) {c k r : Int32} (hN : NC ≤ 6) (h : ftwo_R NC c k r) (hM : wY_two_46 post c k r (nI NC) yt ys ym no nb ya yw yv yu yo yk yp ye ycp ycf ymt kd ytk ytp ysk yoc yof ybt ybp sv vr ow ed wa yh vl ypr mo mb) : wpY_two post (nI NC, yt, ys, ym, no, nb, ya, yw, yv, yu, yo, yk, yp, ye, ycp, ycf, ymt, kd, ytk, ytp, ysk, yoc, yof, ybt, ybp, sv, vr, ow, ed, wa, yh, vl, ypr, mo, mb) c k := by
  rcases h with ⟨rfl, h⟩ | ⟨j, hj, rfl, ⟨rfl, h⟩ | ⟨rfl, rfl⟩ | ⟨rfl, rfl⟩ | ⟨rfl, rfl⟩ | ⟨rfl, rfl⟩ | ⟨rfl, rfl⟩ | ⟨rfl, rfl⟩ | ⟨rfl, rfl⟩ | ⟨rfl, rfl⟩ | ⟨rfl, hr⟩ | ⟨rfl, hr⟩⟩
  · exact br_t h (br_t rfl (br_f (fy_ne (j := 8) h (by decide)) (br_f (fy_ne (j := 9) h (by decide)) hM)))
  · exact br_f (nI_pos hj) (br_t (nI_lt (a := 7) (by omega) hj) (br_t rfl (br_f (ay_nIne (b := 8) (by omega) hj (by decide)) (br_f (ay_nIne (b := 9) (by omega) hj (by decide)) hM))))
  · exact br_f (by decide) (br_f (by decide) (br_f (by decide) hM))
  · exact br_f (by decide) (br_f (by decide) (br_f (by decide) hM))
  · exact br_f (by decide) (br_f (by decide) (br_f (by decide) hM))
  · exact br_f (by decide) (br_f (by decide) (br_f (by decide) hM))
  · exact br_f (by decide) (br_f (by decide) (br_f (by decide) hM))
  · exact br_f (by decide) (br_f (by decide) (br_f (by decide) hM))
  · exact br_f (by decide) (br_f (by decide) (br_f (by decide) hM))
  · exact br_f (by decide) (br_f (by decide) (br_f (by decide) hM))
  · rcases fm_b hr with rfl | rfl
    · exact br_f (by decide) (br_t (by decide) (br_t rfl (br_t rfl (fy_msg (a := 1) _ (by decide) hr (br_t rfl (br_f (by decide) hM))))))
    · exact br_f (by decide) (br_t (by decide) (br_t rfl (br_t rfl (fy_msg (a := 1) _ (by decide) hr (br_f (by decide) hM)))))
  · rcases fm_b hr with rfl | rfl
    · exact br_f (by decide) (br_t (by decide) (br_t rfl (br_f (by decide) (br_t rfl (fy_msg (a := 2) _ (by decide) hr (br_t rfl hM))))))
    · exact br_f (by decide) (br_t (by decide) (br_t rfl (br_f (by decide) (br_t rfl (fy_msg (a := 2) _ (by decide) hr (br_f (by decide) hM))))))
theorem fy_three (post : Int32 → SY → Prop) {c k r : Int32} (hN : NC ≤ 6) (h : fthree_R NC c k r) (hM : wY_three_23 post c k r (nI NC) yt ys ym no nb ya yw yv yu yo yk yp ye ycp ycf ymt kd ytk ytp ysk yoc yof ybt ybp sv vr ow ed wa yh vl ypr mo mb) : wpY_three post (nI NC, yt, ys, ym, no, nb, ya, yw, yv, yu, yo, yk, yp, ye, ycp, ycf, ymt, kd, ytk, ytp, ysk, yoc, yof, ybt, ybp, sv, vr, ow, ed, wa, yh, vl, ypr, mo, mb) c k := by
  rcases h with ⟨rfl, h⟩ | ⟨j, hj, rfl, ⟨rfl, h⟩ | ⟨rfl, rfl⟩ | ⟨rfl, hr⟩⟩
  · exact (br_f (fy_ne (j := 0) h (by decide)) (br_f (fy_ne (j := 1) h (by decide)) hM))
  · exact (br_f (ay_nIne (b := 0) (by omega) hj (by decide)) (br_f (ay_nIne (b := 1) (by omega) hj (by decide)) hM))
  · exact (br_t rfl hM)
  · rcases fm_b hr with rfl | rfl
    · exact (br_f (by decide) (br_t rfl (fy_msg (a := 2) _ (by decide) hr (br_t rfl hM))))
    · exact (br_f (by decide) (br_t rfl (fy_msg (a := 2) _ (by decide) hr (br_f (by decide) hM))))
end
end
section
section
variable {nc nt ns mn n na f ws vs en pc tc dc : Int32} {rs : Int64} {cp cf mt op tk tp fp sk oc bt ba rd ac af fa fw fv wt wd pr mc : Nat → Int32} {of sl wv : Nat → Int64}
variable {NC NT : Nat}
theorem mk_x (post : Int32 → SX → Prop) {b p kn : Nat} {o x : Int32} (hv : pg_v kn) (hkp : kn / 10 = p) (ho : o = nI (pg_op kn)) (ht : NT < 100) (hb : b + p ≤ 8) (hb8 : b < 8) (hp : post (nI (b + 1)) (nI NC, nI (NT + 1), nI (b + 1), mn, n, na, f, ws, vs, en, rs, pc, tc, dc, cp, cf, mt, upd op NT (nI (pg_op kn)), upd tk NT x, bu_n tp sk (3 * NT) b p, upd fp NT (nI (pg_fp kn)), upd sk b (nI NT), oc, of, bt, ba, rd, sl, ac, af, fa, fw, fv, wt, wd, wv, pr, mc)) : wpX_build post (nI NC, nI NT, nI (b + p), mn, n, na, f, ws, vs, en, rs, pc, tc, dc, cp, cf, mt, op, tk, tp, fp, sk, oc, of, bt, ba, rd, sl, ac, af, fa, fw, fv, wt, wd, wv, pr, mc) o x (nI p) := by
  have l := (pg_fpl hv).2
  subst ho
  exact bu_x post (by omega) ht hb hb8 (fun Q hQ => by rw [← hkp]; exact bu_fp hv Q hQ) hp
end
section
variable {yc yt ys ym no nb ya yw yv yu yo yk yp ye : Int32} {ycp ycf ymt kd ytk ytp ysk yoc ybt ybp ow ed wa yh ypr mo mb : Nat → Int32} {yof sv vr vl : Nat → Int64}
variable {NT : Nat}
theorem mk_y (post : Int32 → SY → Prop) {b p kn : Nat} {kk x : Int32} (hv : pg_v kn) (hkp : kn / 10 = p) (hk : kk = nI kn) (ht : NT < 100) (hb : b + p ≤ 8) (hb8 : b < 8) (hp : post (nI (b + 1)) (yc, nI (NT + 1), nI (b + 1), ym, no, nb, ya, yw, yv, yu, yo, yk, yp, ye, ycp, ycf, ymt, upd kd NT (nI kn), upd ytk NT x, bu_n ytp ysk (3 * NT) b p, upd ysk b (nI NT), yoc, yof, ybt, ybp, sv, vr, ow, ed, wa, yh, vl, ypr, mo, mb)) : wpY_make post (yc, nI NT, nI (b + p), ym, no, nb, ya, yw, yv, yu, yo, yk, yp, ye, ycp, ycf, ymt, kd, ytk, ytp, ysk, yoc, yof, ybt, ybp, sv, vr, ow, ed, wa, yh, vl, ypr, mo, mb) kk x (nI p) 1 := by
  have l := (pg_fpl hv).2
  subst hk
  exact my_g post ht (by omega) hb hb8 hp
end
theorem bo_0 {j : Nat} (h : j < 7) : (0 : Int32) + nI j = nI (pg_op (0 + j)) := by
  have q : ∀ j, j < 7 → 0 + j = pg_op (0 + j) := by decide
  rw [← q j h]
  exact nI_add 0 j
theorem bo_1 {j : Nat} (h : j < 8) : (7 : Int32) + nI j = nI (pg_op (10 + j)) := by
  have q : ∀ j, j < 8 → 7 + j = pg_op (10 + j) := by decide
  rw [← q j h]
  exact nI_add 7 j
theorem bo_2 {j : Nat} (h : j < 8) : (15 : Int32) + nI j = nI (pg_op (20 + j)) := by
  have q : ∀ j, j < 8 → 15 + j = pg_op (20 + j) := by decide
  rw [← q j h]
  exact nI_add 15 j
theorem im_leaf {u : SX} {v : SY} (I : rk_R u v) (v1 v2 : Int32) : wpX_leaf (fun r u' => wpY_leaf (fun r' v' => r' = r ∧ rk_R u' v') v v1 v2) u v1 v2 := by
  obtain ⟨NC, NT, SP, KN, PN, SZ, G, mn, n, na, f, ws, vs, en, pc, tc, dc, no, nb, ya, yw, yv, yu, yo, yk, yp, ye, rs, cp, cf, mt, op, tk, tp, fp, sk, oc, bt, ba, rd, ac, af, fa, fw, fv, wt, wd, pr, mc, kd, yoc, ybt, ybp, ow, ed, wa, yh, ypr, mo, mb, of, sl, wv, yof, sv, vr, vl, rfl, rfl, S⟩ := I
  have hN : NC ≤ 6 := S.1.1
  have hT : NT ≤ 100 := S.1.2.1
  have h8 : SP ≤ 8 := S.2.1
  obtain ⟨r, hr⟩ := fleaf_ex NC v1 v2
  unfold wpX_leaf
  refine fx_leaf _ hN hr ?_
  rcases fleaf_01 hr with rfl | ⟨rfl, j, hj, rfl, hv, hk⟩
  · exact br_t rfl (fy_leaf _ hN hr (my_0 _ ⟨rfl, rk_i S⟩))
  · refine br_f (by decide) ?_
    by_cases e : NT = 100
    · subst e
      exact br_t (by decide) (fy_leaf _ hN hr (my_n _ ⟨rfl, rk_i S⟩))
    · refine br_f (nI_ge (b := 100) (by omega) (by decide)) ?_
      by_cases e8 : SP = 8
      · subst e8
        exact br_f (by decide) (fy_leaf _ hN hr (my_s _ (by omega) ⟨rfl, rk_i S⟩))
      · refine br_t (nI_lt (b := 8) (by omega) (by decide)) ?_
        exact mk_x (p := 0) (b := SP) _ hv (by omega) (bo_0 hj) (by omega) (by omega) (by omega) (fy_leaf _ hN hr (mk_y (p := 0) (b := SP) _ hv (by omega) (congrArg nI (Nat.zero_add j).symm) (by omega) (by omega) (by omega) ⟨rfl, rk_i (bu_go (p := 0) (b := SP) S hv hk (by omega) (by omega) (by omega))⟩))
theorem im_one {u : SX} {v : SY} (I : rk_R u v) (v1 v2 : Int32) : wpX_one (fun r u' => wpY_one (fun r' v' => r' = r ∧ rk_R u' v') v v1 v2) u v1 v2 := by
  obtain ⟨NC, NT, SP, KN, PN, SZ, G, mn, n, na, f, ws, vs, en, pc, tc, dc, no, nb, ya, yw, yv, yu, yo, yk, yp, ye, rs, cp, cf, mt, op, tk, tp, fp, sk, oc, bt, ba, rd, ac, af, fa, fw, fv, wt, wd, pr, mc, kd, yoc, ybt, ybp, ow, ed, wa, yh, ypr, mo, mb, of, sl, wv, yof, sv, vr, vl, rfl, rfl, S⟩ := I
  have hN : NC ≤ 6 := S.1.1
  have hT : NT ≤ 100 := S.1.2.1
  have h8 : SP ≤ 8 := S.2.1
  obtain ⟨r, hr⟩ := fone_ex NC v1 v2
  unfold wpX_one
  refine fx_one _ hN hr ?_
  rcases fone_01 hr with rfl | ⟨rfl, j, hj, rfl, hv, hk⟩
  · exact br_t rfl (fy_one _ hN hr (my_0 _ ⟨rfl, rk_i S⟩))
  · refine br_f (by decide) ?_
    by_cases e : NT = 100
    · subst e
      exact br_f (by decide) (fy_one _ hN hr (my_n _ ⟨rfl, rk_i S⟩))
    · refine br_t (nI_lt (b := 100) (by omega) (by decide)) ?_
      by_cases es : SP < 1
      · exact br_f (nI_ge (b := 1) es (by decide)) (fy_one _ hN hr (my_f (p := 1) _ (by omega) (by decide) (by decide) es ⟨rfl, rk_i S⟩))
      · obtain ⟨b, rfl⟩ : ∃ b, SP = b + 1 := ⟨SP - 1, by omega⟩
        refine br_t (nI_le (a := 1) (by omega) (by omega)) ?_
        have hkp : (10 + j) / 10 = 1 := by omega
        have fY : wpY_one (fun r' v' => r' = nI (b + 1) ∧ rk_R (nI NC, nI (NT + 1), nI (b + 1), mn, n, na, f, ws, vs, en, rs, pc, tc, dc, cp, cf, mt, upd op NT (nI (pg_op (10 + j))), upd tk NT v2, bu_n tp sk (3 * NT) b 1, upd fp NT (nI (pg_fp (10 + j))), upd sk b (nI NT), oc, of, bt, ba, rd, sl, ac, af, fa, fw, fv, wt, wd, wv, pr, mc) v') (nI NC, nI NT, nI (b + 1), mn, no, nb, ya, yw, yv, yu, yo, yk, yp, ye, cp, cf, mt, kd, tk, tp, sk, yoc, yof, ybt, ybp, sv, vr, ow, ed, wa, yh, vl, ypr, mo, mb) (nI j) v2 := fy_one _ hN hr (mk_y (p := 1) (b := b) _ hv hkp (nI_add 10 j) (by omega) (by omega) (by omega) ⟨rfl, rk_i (bu_go (p := 1) (b := b) S hv hk hkp (by omega) (by omega))⟩)
        by_cases z : j = 8
        · subst z
          exact br_t rfl (mk_x (p := 1) (b := b) _ hv hkp rfl (by omega) (by omega) (by omega) fY)
        · exact br_f (ay_nIne z (by omega) (by decide)) (mk_x (p := 1) (b := b) _ hv hkp (bo_1 (by omega)) (by omega) (by omega) (by omega) fY)
theorem im_two {u : SX} {v : SY} (I : rk_R u v) (v1 v2 : Int32) : wpX_two (fun r u' => wpY_two (fun r' v' => r' = r ∧ rk_R u' v') v v1 v2) u v1 v2 := by
  obtain ⟨NC, NT, SP, KN, PN, SZ, G, mn, n, na, f, ws, vs, en, pc, tc, dc, no, nb, ya, yw, yv, yu, yo, yk, yp, ye, rs, cp, cf, mt, op, tk, tp, fp, sk, oc, bt, ba, rd, ac, af, fa, fw, fv, wt, wd, pr, mc, kd, yoc, ybt, ybp, ow, ed, wa, yh, ypr, mo, mb, of, sl, wv, yof, sv, vr, vl, rfl, rfl, S⟩ := I
  have hN : NC ≤ 6 := S.1.1
  have hT : NT ≤ 100 := S.1.2.1
  have h8 : SP ≤ 8 := S.2.1
  obtain ⟨r, hr⟩ := ftwo_ex NC v1 v2
  unfold wpX_two
  refine fx_two _ hN hr ?_
  rcases ftwo_01 hr with rfl | ⟨rfl, j, hj, rfl, hv, hk⟩
  · exact br_t rfl (fy_two _ hN hr (my_0 _ ⟨rfl, rk_i S⟩))
  · refine br_f (by decide) ?_
    by_cases e : NT = 100
    · subst e
      exact br_f (by decide) (fy_two _ hN hr (my_n _ ⟨rfl, rk_i S⟩))
    · refine br_t (nI_lt (b := 100) (by omega) (by decide)) ?_
      by_cases es : SP < 2
      · exact br_f (nI_ge (b := 2) es (by decide)) (fy_two _ hN hr (my_f (p := 2) _ (by omega) (by decide) (by decide) es ⟨rfl, rk_i S⟩))
      · obtain ⟨b, rfl⟩ : ∃ b, SP = b + 2 := ⟨SP - 2, by omega⟩
        refine br_t (nI_le (a := 2) (by omega) (by omega)) ?_
        have hkp : (20 + j) / 10 = 2 := by omega
        have fY : wpY_two (fun r' v' => r' = nI (b + 1) ∧ rk_R (nI NC, nI (NT + 1), nI (b + 1), mn, n, na, f, ws, vs, en, rs, pc, tc, dc, cp, cf, mt, upd op NT (nI (pg_op (20 + j))), upd tk NT v2, bu_n tp sk (3 * NT) b 2, upd fp NT (nI (pg_fp (20 + j))), upd sk b (nI NT), oc, of, bt, ba, rd, sl, ac, af, fa, fw, fv, wt, wd, wv, pr, mc) v') (nI NC, nI NT, nI (b + 2), mn, no, nb, ya, yw, yv, yu, yo, yk, yp, ye, cp, cf, mt, kd, tk, tp, sk, yoc, yof, ybt, ybp, sv, vr, ow, ed, wa, yh, vl, ypr, mo, mb) (nI j) v2 := fy_two _ hN hr (mk_y (p := 2) (b := b) _ hv hkp (nI_add 20 j) (by omega) (by omega) (by omega) ⟨rfl, rk_i (bu_go (p := 2) (b := b) S hv hk hkp (by omega) (by omega))⟩)
        refine nm_e ?_
        by_cases z : j = 8
        · subst z
          exact br_t rfl (mk_x (p := 2) (b := b) _ hv hkp rfl (by omega) (by omega) (by omega) fY)
        · refine br_f (ay_nIne z (by omega) (by decide)) ?_
          by_cases y : j = 9
          · subst y
            exact br_t rfl (mk_x (p := 2) (b := b) _ hv hkp rfl (by omega) (by omega) (by omega) fY)
          · exact br_f (ay_nIne y (by omega) (by decide)) (mk_x (p := 2) (b := b) _ hv hkp (bo_2 (by omega)) (by omega) (by omega) (by omega) fY)
theorem im_three {u : SX} {v : SY} (I : rk_R u v) (v1 v2 : Int32) : wpX_three (fun r u' => wpY_three (fun r' v' => r' = r ∧ rk_R u' v') v v1 v2) u v1 v2 := by
  obtain ⟨NC, NT, SP, KN, PN, SZ, G, mn, n, na, f, ws, vs, en, pc, tc, dc, no, nb, ya, yw, yv, yu, yo, yk, yp, ye, rs, cp, cf, mt, op, tk, tp, fp, sk, oc, bt, ba, rd, ac, af, fa, fw, fv, wt, wd, pr, mc, kd, yoc, ybt, ybp, ow, ed, wa, yh, ypr, mo, mb, of, sl, wv, yof, sv, vr, vl, rfl, rfl, S⟩ := I
  have hN : NC ≤ 6 := S.1.1
  have hT : NT ≤ 100 := S.1.2.1
  have h8 : SP ≤ 8 := S.2.1
  obtain ⟨r, hr⟩ := fthree_ex NC v1 v2
  unfold wpX_three
  refine fx_three _ hN hr ?_
  rcases fthree_01 hr with rfl | ⟨rfl, j, hj, rfl, hv, hk⟩
  · exact br_t rfl (fy_three _ hN hr (my_0 _ ⟨rfl, rk_i S⟩))
  · refine br_f (by decide) ?_
    by_cases e : NT = 100
    · subst e
      exact br_f (by decide) (fy_three _ hN hr (my_n _ ⟨rfl, rk_i S⟩))
    · refine br_t (nI_lt (b := 100) (by omega) (by decide)) ?_
      by_cases es : SP < 3
      · exact br_f (nI_ge (b := 3) es (by decide)) (fy_three _ hN hr (my_f (p := 3) _ (by omega) (by decide) (by decide) es ⟨rfl, rk_i S⟩))
      · obtain ⟨b, rfl⟩ : ∃ b, SP = b + 3 := ⟨SP - 3, by omega⟩
        refine br_t (nI_le (a := 3) (by omega) (by omega)) ?_
        have hkp : (30 + j) / 10 = 3 := by omega
        have fY : wpY_three (fun r' v' => r' = nI (b + 1) ∧ rk_R (nI NC, nI (NT + 1), nI (b + 1), mn, n, na, f, ws, vs, en, rs, pc, tc, dc, cp, cf, mt, upd op NT (nI (pg_op (30 + j))), upd tk NT v2, bu_n tp sk (3 * NT) b 3, upd fp NT (nI (pg_fp (30 + j))), upd sk b (nI NT), oc, of, bt, ba, rd, sl, ac, af, fa, fw, fv, wt, wd, wv, pr, mc) v') (nI NC, nI NT, nI (b + 3), mn, no, nb, ya, yw, yv, yu, yo, yk, yp, ye, cp, cf, mt, kd, tk, tp, sk, yoc, yof, ybt, ybp, sv, vr, ow, ed, wa, yh, vl, ypr, mo, mb) (nI j) v2 := fy_three _ hN hr (mk_y (p := 3) (b := b) _ hv hkp (nI_add 30 j) (by omega) (by omega) (by omega) ⟨rfl, rk_i (bu_go (p := 3) (b := b) S hv hk hkp (by omega) (by omega))⟩)
        by_cases z : j = 1
        · subst z
          exact br_t rfl (mk_x (p := 3) (b := b) _ hv hkp rfl (by omega) (by omega) (by omega) fY)
        · have y : j = 0 := by omega
          subst y
          exact br_f (by decide) (mk_x (p := 3) (b := b) _ hv hkp rfl (by omega) (by omega) (by omega) fY)
end
section
theorem sg_pop {NC NT b : Nat} {mn : Int32} {cp cf mt op tk tp fp sk kd : Nat → Int32} {KN PN SZ G : Nat → Nat} (S : sg_S NC NT (b + 1) mn cp cf mt op tk tp fp sk kd KN PN SZ G) : sg_S NC NT b mn cp cf mt op tk tp fp sk kd KN PN SZ G := by
  obtain ⟨P, S2, S3, S4, S5⟩ := S
  refine ⟨P, by omega, fun i hi => S3 i (by omega), ?_, S5⟩
  have q : sg_sm SZ G (b + 1) = sg_sm SZ G b + SZ (G b) := rfl
  omega
theorem sg_top {NC NT b : Nat} {mn : Int32} {cp cf mt op tk tp fp sk kd : Nat → Int32} {KN PN SZ G : Nat → Nat} (S : sg_S NC NT (b + 1) mn cp cf mt op tk tp fp sk kd KN PN SZ G) : G b < NT ∧ sk b = nI (G b) := S.2.2.1 b (by omega)
theorem im_drop {u : SX} {v : SY} (I : rk_R u v) : wpX_drop (fun r u' => wpY_drop (fun r' v' => r' = r ∧ rk_R u' v') v) u := by
  obtain ⟨NC, NT, SP, KN, PN, SZ, G, mn, n, na, f, ws, vs, en, pc, tc, dc, no, nb, ya, yw, yv, yu, yo, yk, yp, ye, rs, cp, cf, mt, op, tk, tp, fp, sk, oc, bt, ba, rd, ac, af, fa, fw, fv, wt, wd, pr, mc, kd, yoc, ybt, ybp, ow, ed, wa, yh, ypr, mo, mb, of, sl, wv, yof, sv, vr, vl, rfl, rfl, S⟩ := I
  cases SP with
  | zero => exact br_f (by decide) (br_t rfl ⟨rfl, rk_i S⟩)
  | succ b =>
    have h8 : b + 1 ≤ 8 := S.2.1
    exact br_t (nI_le (a := 1) (by omega) (by omega)) (nm_r (nI_pred b) (br_f (nI_ne0 (by omega) (by omega)) (nm_r (nI_pred b) ⟨rfl, rk_i (sg_pop S)⟩)))
theorem im_main {u : SX} {v : SY} (I : rk_R u v) : wpX_main (fun r u' => wpY_main (fun r' v' => r' = r ∧ rk_R u' v') v) u := by
  obtain ⟨NC, NT, SP, KN, PN, SZ, G, mn, n, na, f, ws, vs, en, pc, tc, dc, no, nb, ya, yw, yv, yu, yo, yk, yp, ye, rs, cp, cf, mt, op, tk, tp, fp, sk, oc, bt, ba, rd, ac, af, fa, fw, fv, wt, wd, pr, mc, kd, yoc, ybt, ybp, ow, ed, wa, yh, ypr, mo, mb, of, sl, wv, yof, sv, vr, vl, rfl, rfl, S⟩ := I
  cases SP with
  | zero => exact br_f (by decide) (br_t rfl ⟨rfl, rk_i S⟩)
  | succ b =>
    have h8 : b + 1 ≤ 8 := S.2.1
    have T := sg_top S
    have S' : sg_S NC NT b (sk b) cp cf mt op tk tp fp sk kd KN PN SZ G := by
      obtain ⟨P, S2, S3, S4, S5⟩ := sg_pop S
      exact ⟨P, S2, S3, S4, Or.inr ⟨G b, T.1, T.2⟩⟩
    exact br_t (nI_le (a := 1) (by omega) (by omega)) (nm_r (nI_pred b) (And.intro (vp_in_nI (by omega) (by decide)) (nm_r (e' := sk b) (by rw [nI_clamp (by omega)]) (br_f (nI_ne0 (by omega) (by omega)) (nm_r (nI_pred b) (And.intro (vp_in_nI (by omega) (by decide)) (nm_r (e' := sk b) (by rw [nI_clamp (by omega)]) ⟨rfl, rk_i S'⟩)))))))
theorem im_depth {u : SX} {v : SY} (I : rk_R u v) : wpX_depth (fun r => wpY_depth (fun r' => r' = r ∧ rk_R u v) v) u := by
  have I' := I
  obtain ⟨NC, NT, SP, KN, PN, SZ, G, mn, n, na, f, ws, vs, en, pc, tc, dc, no, nb, ya, yw, yv, yu, yo, yk, yp, ye, rs, cp, cf, mt, op, tk, tp, fp, sk, oc, bt, ba, rd, ac, af, fa, fw, fv, wt, wd, pr, mc, kd, yoc, ybt, ybp, ow, ed, wa, yh, ypr, mo, mb, of, sl, wv, yof, sv, vr, vl, rfl, rfl, S⟩ := I
  exact ⟨rfl, I'⟩
theorem im_tidy {u : SX} {v : SY} (I : rk_R u v) (v1 : Int32) : wpX_tidy (fun r => wpY_tidy (fun r' => r' = r ∧ rk_R u v) v v1) u v1 := by
  have I' := I
  obtain ⟨NC, NT, SP, KN, PN, SZ, G, mn, n, na, f, ws, vs, en, pc, tc, dc, no, nb, ya, yw, yv, yu, yo, yk, yp, ye, rs, cp, cf, mt, op, tk, tp, fp, sk, oc, bt, ba, rd, ac, af, fa, fw, fv, wt, wd, pr, mc, kd, yoc, ybt, ybp, ow, ed, wa, yh, ypr, mo, mb, of, sl, wv, yof, sv, vr, vl, rfl, rfl, S⟩ := I
  by_cases h : v1 < 1
  · exact br_t h (br_t h ⟨rfl, I'⟩)
  · by_cases z : 50 < v1
    · exact br_f h (br_t z (br_f h (br_f (fun y => absurd z (Int32.not_lt.mpr y)) ⟨rfl, I'⟩)))
    · exact br_f h (br_f z (br_f h (br_t (Int32.not_lt.mp z) ⟨rfl, I'⟩)))
theorem sg_0 {cp cf mt op tk tp fp sk kd : Nat → Int32} : sg_S 0 0 0 (-1) cp cf mt op tk tp fp sk kd (fun _ => 0) (fun _ => 0) (fun _ => 0) (fun _ => 0) :=
  ⟨⟨by omega, by omega, fun c hc => absurd hc (Nat.not_lt_zero _), fun t ht => absurd ht (Nat.not_lt_zero _)⟩, by omega, fun i hi => absurd hi (Nat.not_lt_zero _), Nat.le_refl _, Or.inl rfl⟩
theorem im_forget {u : SX} {v : SY} (I : rk_R u v) : wpX_forget (fun u' => wpY_forget (fun v' => rk_R u' v') v) u := by
  obtain ⟨NC, NT, SP, KN, PN, SZ, G, mn, n, na, f, ws, vs, en, pc, tc, dc, no, nb, ya, yw, yv, yu, yo, yk, yp, ye, rs, cp, cf, mt, op, tk, tp, fp, sk, oc, bt, ba, rd, ac, af, fa, fw, fv, wt, wd, pr, mc, kd, yoc, ybt, ybp, ow, ed, wa, yh, ypr, mo, mb, of, sl, wv, yof, sv, vr, vl, rfl, rfl, S⟩ := I
  exact rk_i (NC := 0) (NT := 0) (SP := 0) sg_0
theorem im_init : wpX_init (fun u => wpY_init (fun v => rk_R u v)) :=
  rk_i (NC := 0) (NT := 0) (SP := 0) sg_0
theorem mt_i6 {c s : Nat} : nI c * 6 + nI s = nI (6 * c + s) := by
  rw [show (6 : Int32) = nI 6 from rfl, pk_mul, nI_add, Nat.mul_comm]
theorem mt_j6 {c s : Nat} : 6 * nI c + nI s = nI (6 * c + s) := by
  rw [show (6 : Int32) = nI 6 from rfl, pk_mul, nI_add]
section
variable {yc yt ys ym no nb ya yw yv yu yo yk yp ye : Int32} {ycp ycf ymt kd ytk ytp ysk yoc ybt ybp ow ed wa yh ypr mo mb : Nat → Int32} {yof sv vr vl : Nat → Int64}
variable {NC : Nat}
theorem mm_0 (post : Int32 → SY → Prop) {v1 v2 : Int32} (hN : NC ≤ 6) (hr : fi_R NC v1 0) (hp : post (-1) (nI NC, yt, ys, ym, no, nb, ya, yw, yv, yu, yo, yk, yp, ye, ycp, ycf, ymt, kd, ytk, ytp, ysk, yoc, yof, ybt, ybp, sv, vr, ow, ed, wa, yh, vl, ypr, mo, mb)) : wpY_method post (nI NC, yt, ys, ym, no, nb, ya, yw, yv, yu, yo, yk, yp, ye, ycp, ycf, ymt, kd, ytk, ytp, ysk, yoc, yof, ybt, ybp, sv, vr, ow, ed, wa, yh, vl, ypr, mo, mb) v1 v2 := by
  unfold wpY_method
  exact fy_cls _ hN hr (br_t rfl hp)
theorem mm_1 (post : Int32 → SY → Prop) {v1 v2 : Int32} (hN : NC ≤ 6) (hr : fi_R NC v1 1) (hs : fi_R 6 v2 0) (hp : post (-1) (nI NC, yt, ys, ym, no, nb, ya, yw, yv, yu, yo, yk, yp, ye, ycp, ycf, ymt, kd, ytk, ytp, ysk, yoc, yof, ybt, ybp, sv, vr, ow, ed, wa, yh, vl, ypr, mo, mb)) : wpY_method post (nI NC, yt, ys, ym, no, nb, ya, yw, yv, yu, yo, yk, yp, ye, ycp, ycf, ymt, kd, ytk, ytp, ysk, yoc, yof, ybt, ybp, sv, vr, ow, ed, wa, yh, vl, ypr, mo, mb) v1 v2 := by
  unfold wpY_method
  exact fy_cls _ hN hr (br_f (by decide) (fy_in (m := 5) _ (by decide) hs (br_t rfl hp)))
theorem mm_2 (post : Int32 → SY → Prop) {v1 v2 : Int32} (hN : NC ≤ 6) (hr : fi_R NC v1 1) (hs : fi_R 6 v2 1) (hp : post (-3) (nI NC, yt, nI 0, ym, no, nb, ya, yw, yv, yu, yo, yk, yp, ye, ycp, ycf, ymt, kd, ytk, ytp, ysk, yoc, yof, ybt, ybp, sv, vr, ow, ed, wa, yh, vl, ypr, mo, mb)) : wpY_method post (nI NC, yt, nI 0, ym, no, nb, ya, yw, yv, yu, yo, yk, yp, ye, ycp, ycf, ymt, kd, ytk, ytp, ysk, yoc, yof, ybt, ybp, sv, vr, ow, ed, wa, yh, vl, ypr, mo, mb) v1 v2 := by
  unfold wpY_method
  exact fy_cls _ hN hr (br_f (by decide) (fy_in (m := 5) _ (by decide) hs (br_f (by decide) (br_t rfl hp))))
theorem mm_3 (post : Int32 → SY → Prop) {b c j : Nat} (hN : NC ≤ 6) (hb : b < 8) (hc : c < NC) (hj : j < 6) (hr : fi_R NC (nI c) 1) (hs : fi_R 6 (nI j) 1) (hp : post (nI b) (nI NC, yt, nI b, ym, no, nb, ya, yw, yv, yu, yo, yk, yp, ye, ycp, ycf, upd ymt (6 * c + j) (ysk b), kd, ytk, ytp, ysk, yoc, yof, ybt, ybp, sv, vr, ow, ed, wa, yh, vl, ypr, mo, mb)) : wpY_method post (nI NC, yt, nI (b + 1), ym, no, nb, ya, yw, yv, yu, yo, yk, yp, ye, ycp, ycf, ymt, kd, ytk, ytp, ysk, yoc, yof, ybt, ybp, sv, vr, ow, ed, wa, yh, vl, ypr, mo, mb) (nI c) (nI j) := by
  unfold wpY_method
  exact fy_cls _ hN hr (br_f (by decide) (fy_in (m := 5) _ (by decide) hs (br_f (by decide) (br_f (nI_ne0 (by omega) (by omega)) (nm_r (nI_pred b) (And.intro (vp_in_nI (by omega) (by decide)) (And.intro (by rw [mt_j6]; exact vp_in_nI (by omega) (by decide)) (nm_r (e' := upd ymt (6 * c + j) (ysk b)) (by rw [mt_j6, nI_clamp (by omega), nI_clamp (by omega)]) hp))))))))
end
theorem im_method {u : SX} {v : SY} (I : rk_R u v) (v1 v2 : Int32) : wpX_method (fun r u' => wpY_method (fun r' v' => r' = r ∧ rk_R u' v') v v1 v2) u v1 v2 := by
  obtain ⟨NC, NT, SP, KN, PN, SZ, G, mn, n, na, f, ws, vs, en, pc, tc, dc, no, nb, ya, yw, yv, yu, yo, yk, yp, ye, rs, cp, cf, mt, op, tk, tp, fp, sk, oc, bt, ba, rd, ac, af, fa, fw, fv, wt, wd, pr, mc, kd, yoc, ybt, ybp, ow, ed, wa, yh, ypr, mo, mb, of, sl, wv, yof, sv, vr, vl, rfl, rfl, S⟩ := I
  have hN : NC ≤ 6 := S.1.1
  have hT : NT ≤ 100 := S.1.2.1
  have h8 : SP ≤ 8 := S.2.1
  obtain ⟨r, hr⟩ := fi_ex NC v1
  obtain ⟨s, hs⟩ := fi_ex 6 v2
  unfold wpX_method
  refine fx_cls _ hN hr ?_
  rcases fi_01 hr with rfl | ⟨rfl, c, hc, rfl⟩
  · exact br_t rfl (mm_0 _ hN hr ⟨rfl, rk_i S⟩)
  · refine br_f (by decide) ?_
    have hs' := hs
    rcases hs with ⟨rfl, h⟩ | ⟨j, hj, rfl, ⟨rfl, h⟩ | ⟨rfl, h⟩⟩
    · exact br_t h (mm_1 _ hN hr hs' ⟨rfl, rk_i S⟩)
    · exact br_f (nI_pos hj) (br_f (nI_nlt (b := 6) h hj) (mm_1 _ hN hr hs' ⟨rfl, rk_i S⟩))
    · refine br_f (nI_pos hj) (br_t (nI_lt (b := 6) h (by decide)) ?_)
      cases SP with
      | zero => exact br_f (by decide) (mm_2 _ hN hr hs' ⟨rfl, rk_i S⟩)
      | succ b =>
        have T := sg_top S
        have S' : sg_S NC NT b mn cp cf (upd mt (6 * c + j) (sk b)) op tk tp fp sk kd KN PN SZ G := by
          obtain ⟨⟨P1, P2, P3, P4⟩, S2, S3, S4, S5⟩ := sg_pop S
          refine ⟨⟨P1, P2, fun d hd => ?_, P4⟩, S2, S3, S4, S5⟩
          obtain ⟨a1, a2, a3⟩ := P3 d hd
          refine ⟨a1, a2, fun i hi => ?_⟩
          by_cases e : 6 * d + i = 6 * c + j
          · rw [e, pk_us]
            exact Or.inr ⟨G b, T.1, T.2⟩
          · rw [pk_un e]
            exact a3 i hi
        exact br_t (nI_le (a := 1) (by omega) (by omega)) (nm_r (nI_pred b) (And.intro (vp_in_nI (by omega) (by decide)) (And.intro (by rw [mt_i6]; exact vp_in_nI (by omega) (by decide)) (nm_r (e' := upd mt (6 * c + j) (sk b)) (by rw [mt_i6, nI_clamp (by omega), nI_clamp (by omega)]) (mm_3 _ hN (by omega) hc h hr hs' ⟨rfl, rk_i S'⟩)))))
/-! newClass -/
def mu_n (mt : Nat → Int32) (c : Nat) : Nat → Nat → Int32
  | 0 => mt
  | i + 1 => upd (mu_n mt c i) (c + i) (-1)
theorem mu_in {mt : Nat → Int32} {c : Nat} : ∀ {p j : Nat}, j < p → mu_n mt c p (c + j) = -1
  | 0, _, h => absurd h (Nat.not_lt_zero _)
  | p + 1, j, h => by
    show upd (mu_n mt c p) (c + p) (-1) (c + j) = -1
    by_cases e : j = p
    · subst e; exact pk_us
    · rw [pk_un (by omega)]; exact mu_in (by omega)
theorem mu_out {mt : Nat → Int32} {c i : Nat} (h : i < c) : ∀ {p : Nat}, mu_n mt c p i = mt i
  | 0 => rfl
  | p + 1 => by
    show upd (mu_n mt c p) (c + p) (-1) i = mt i
    rw [pk_un (by omega)]; exact mu_out h
theorem nc_S {NC NT SP F : Nat} {mn x : Int32} {cp cf mt op tk tp fp sk kd : Nat → Int32} {KN PN SZ G : Nat → Nat} (S : sg_S NC NT SP mn cp cf mt op tk tp fp sk kd KN PN SZ G) (hN : NC < 6) (hF : F ≤ 4) (hx : x = -1 ∨ ∃ p, p < NC ∧ x = nI p) : sg_S (NC + 1) NT SP mn (upd cp NC x) (upd cf NC (nI F)) (mu_n mt (6 * NC) 6) op tk tp fp sk kd KN PN SZ G := by
  obtain ⟨⟨P1, P2, P3, P4⟩, S2, S3, S4, S5⟩ := S
  refine ⟨⟨by omega, P2, fun c hc => ?_, fun t ht => ?_⟩, S2, S3, S4, S5⟩
  · unfold pg_C
    by_cases e : c = NC
    · subst e
      rw [pk_us, pk_us]
      exact ⟨hx, ⟨F, hF, rfl⟩, fun s hs => Or.inl (mu_in hs)⟩
    · have C := P3 c (by omega)
      unfold pg_C at C
      rw [pk_un e, pk_un e]
      refine ⟨C.1, C.2.1, fun s hs => ?_⟩
      rw [mu_out (by omega)]
      exact C.2.2 s hs
  · obtain ⟨t1, t2, t3, t4, t5, t6⟩ := P4 t ht
    exact ⟨t1, t2, t3, t4, bu_k (by omega) t5, t6⟩
section
variable {nc nt ns mn n na f ws vs en pc tc dc : Int32} {rs : Int64} {cp cf mt op tk tp fp sk oc bt ba rd ac af fa fw fv wt wd pr mc : Nat → Int32} {of sl wv : Nat → Int64}
variable {NC : Nat}
theorem nc_xl (post : Int32 → SX → Prop) (hN : NC < 6) (hp : post (nI NC) (nI (NC + 1), nt, ns, mn, n, na, f, ws, vs, en, rs, pc, tc, dc, cp, cf, mu_n mt (6 * NC) 6, op, tk, tp, fp, sk, oc, of, bt, ba, rd, sl, ac, af, fa, fw, fv, wt, wd, wv, pr, mc)) : ∀ e k : Nat, k + e = 6 → wX_newClass_88 post (nI NC) (nI NC) nt ns mn n na f ws vs en rs pc tc dc (e + 1) (nI k) cp cf (mu_n mt (6 * NC) k) op tk tp fp sk oc of bt ba rd sl ac af fa fw fv wt wd wv pr mc := by
  intro e
  induction e with
  | zero =>
    intro k h
    have : k = 6 := by omega
    subst this
    exact br_t (by decide) (nm_r (nI_1 NC) hp)
  | succ e ih =>
    intro k h
    exact br_f (nI_ge (b := 6) (by omega) (by decide)) (And.intro (by rw [mt_i6]; exact vp_in_nI (by omega) (by decide)) (nm_r (e' := mu_n mt (6 * NC) (k + 1)) (by rw [mt_i6, nI_clamp (by omega)]; rfl) (nm_r (nI_1 k) (ih (k + 1) (by omega)))))
theorem nc_x1 (post : Int32 → SX → Prop) {F : Nat} {x : Int32} (hF : 4 < F) (hF' : F < 100) (hp : post (-1) (nc, nt, ns, mn, n, na, f, ws, vs, en, rs, pc, tc, dc, cp, cf, mt, op, tk, tp, fp, sk, oc, of, bt, ba, rd, sl, ac, af, fa, fw, fv, wt, wd, wv, pr, mc)) : wX_newClass_43 post x (nI F) nc nt ns mn n na f ws vs en rs pc tc dc cp cf mt op tk tp fp sk oc of bt ba rd sl ac af fa fw fv wt wd wv pr mc :=
  br_f (nI_ge (a := 4) hF (by omega)) hp
theorem nc_x2 (post : Int32 → SX → Prop) {F : Nat} {x : Int32} (hF : F ≤ 4) (hp : post (-2) (nI 6, nt, ns, mn, n, na, f, ws, vs, en, rs, pc, tc, dc, cp, cf, mt, op, tk, tp, fp, sk, oc, of, bt, ba, rd, sl, ac, af, fa, fw, fv, wt, wd, wv, pr, mc)) : wX_newClass_43 post x (nI F) (nI 6) nt ns mn n na f ws vs en rs pc tc dc cp cf mt op tk tp fp sk oc of bt ba rd sl ac af fa fw fv wt wd wv pr mc :=
  br_t (nI_le (b := 4) hF (by decide)) (br_f (by decide) hp)
theorem nc_x3 (post : Int32 → SX → Prop) {F : Nat} {x : Int32} (hF : F ≤ 4) (hN : NC < 6) (hp : post (nI NC) (nI (NC + 1), nt, ns, mn, n, na, f, ws, vs, en, rs, pc, tc, dc, upd cp NC x, upd cf NC (nI F), mu_n mt (6 * NC) 6, op, tk, tp, fp, sk, oc, of, bt, ba, rd, sl, ac, af, fa, fw, fv, wt, wd, wv, pr, mc)) : wX_newClass_43 post x (nI F) (nI NC) nt ns mn n na f ws vs en rs pc tc dc cp cf mt op tk tp fp sk oc of bt ba rd sl ac af fa fw fv wt wd wv pr mc :=
  br_t (nI_le (b := 4) hF (by decide)) (br_t (nI_lt (b := 6) hN (by decide)) (And.intro (vp_in_nI hN (by decide)) (nm_r (e' := upd cp NC x) (by rw [nI_clamp (by omega)]) (And.intro (vp_in_nI hN (by decide)) (nm_r (e' := upd cf NC (nI F)) (by rw [nI_clamp (by omega)]) (Exists.intro 7 (nc_xl post hN hp 6 0 rfl)))))))
end
section
variable {yc yt ys ym no nb ya yw yv yu yo yk yp ye : Int32} {ycp ycf ymt kd ytk ytp ysk yoc ybt ybp ow ed wa yh ypr mo mb : Nat → Int32} {yof sv vr vl : Nat → Int64}
variable {NC : Nat}
theorem nc_yl (post : Int32 → SY → Prop) (hN : NC < 6) (hp : post (nI NC) (nI (NC + 1), yt, ys, ym, no, nb, ya, yw, yv, yu, yo, yk, yp, ye, ycp, ycf, mu_n ymt (6 * NC) 6, kd, ytk, ytp, ysk, yoc, yof, ybt, ybp, sv, vr, ow, ed, wa, yh, vl, ypr, mo, mb)) : ∀ e k : Nat, k + e = 6 → wY_newClass_83 post (nI NC) yt ys ym no nb ya yw yv yu yo yk yp ye (e + 1) (nI k) ycp ycf (mu_n ymt (6 * NC) k) kd ytk ytp ysk yoc yof ybt ybp sv vr ow ed wa yh vl ypr mo mb := by
  intro e
  induction e with
  | zero =>
    intro k h
    have : k = 6 := by omega
    subst this
    exact br_t (by decide) (nm_r (nI_1 NC) (by rw [nI_pred]; exact hp))
  | succ e ih =>
    intro k h
    exact br_f (nI_ge (b := 6) (by omega) (by decide)) (And.intro (by rw [mt_j6]; exact vp_in_nI (by omega) (by decide)) (nm_r (e' := mu_n ymt (6 * NC) (k + 1)) (by rw [mt_j6, nI_clamp (by omega)]; rfl) (nm_r (nI_1 k) (ih (k + 1) (by omega)))))
theorem nc_y1 (post : Int32 → SY → Prop) {F : Nat} {x z0 z1 : Int32} (hz : z1 + z0 = nI F) (hF : 4 < F) (hF' : F < 100) (hp : post (-1) (yc, yt, ys, ym, no, nb, ya, yw, yv, yu, yo, yk, yp, ye, ycp, ycf, ymt, kd, ytk, ytp, ysk, yoc, yof, ybt, ybp, sv, vr, ow, ed, wa, yh, vl, ypr, mo, mb)) : wY_newClass_39 post x z0 z1 yc yt ys ym no nb ya yw yv yu yo yk yp ye ycp ycf ymt kd ytk ytp ysk yoc yof ybt ybp sv vr ow ed wa yh vl ypr mo mb :=
  nm_r hz (br_f (nI_ge (a := 4) hF (by omega)) hp)
theorem nc_y2 (post : Int32 → SY → Prop) {F : Nat} {x z0 z1 : Int32} (hz : z1 + z0 = nI F) (hF : F ≤ 4) (hp : post (-2) (nI 6, yt, ys, ym, no, nb, ya, yw, yv, yu, yo, yk, yp, ye, ycp, ycf, ymt, kd, ytk, ytp, ysk, yoc, yof, ybt, ybp, sv, vr, ow, ed, wa, yh, vl, ypr, mo, mb)) : wY_newClass_39 post x z0 z1 (nI 6) yt ys ym no nb ya yw yv yu yo yk yp ye ycp ycf ymt kd ytk ytp ysk yoc yof ybt ybp sv vr ow ed wa yh vl ypr mo mb :=
  nm_r hz (br_t (nI_le (b := 4) hF (by decide)) (br_t (by decide) hp))
theorem nc_y3 (post : Int32 → SY → Prop) {F : Nat} {x z0 z1 : Int32} (hz : z1 + z0 = nI F) (hF : F ≤ 4) (hN : NC < 6) (hp : post (nI NC) (nI (NC + 1), yt, ys, ym, no, nb, ya, yw, yv, yu, yo, yk, yp, ye, upd ycp NC x, upd ycf NC (nI F), mu_n ymt (6 * NC) 6, kd, ytk, ytp, ysk, yoc, yof, ybt, ybp, sv, vr, ow, ed, wa, yh, vl, ypr, mo, mb)) : wY_newClass_39 post x z0 z1 (nI NC) yt ys ym no nb ya yw yv yu yo yk yp ye ycp ycf ymt kd ytk ytp ysk yoc yof ybt ybp sv vr ow ed wa yh vl ypr mo mb :=
  nm_r hz (br_t (nI_le (b := 4) hF (by decide)) (br_f (ay_nIne (b := 6) (by omega) (by omega) (by decide)) (And.intro (vp_in_nI hN (by decide)) (nm_r (e' := upd ycp NC x) (by rw [nI_clamp (by omega)]) (And.intro (vp_in_nI hN (by decide)) (nm_r (e' := upd ycf NC (nI F)) (by rw [nI_clamp (by omega)]) (Exists.intro 7 (nc_yl post hN hp 6 0 rfl))))))))
end
theorem nc_m1 {n : Nat} (h : n ≤ 6) : ¬ nI n ≤ -1 := fun z => by
  rw [Int32.le_iff_toInt_le, nI_toInt (by omega), show (-1 : Int32).toInt = -1 from by decide] at z
  omega
theorem nc_go {NC NT SP F : Nat} {KN PN SZ G : Nat → Nat} {mn n na f ws vs en pc tc dc no nb ya yw yv yu yo yk yp ye : Int32} {rs : Int64} {cp cf mt op tk tp fp sk oc bt ba rd ac af fa fw fv wt wd pr mc kd yoc ybt ybp ow ed wa yh ypr mo mb : Nat → Int32} {of sl wv yof sv vr vl : Nat → Int64} {x z0 z1 v1 v2 : Int32} (S : sg_S NC NT SP mn cp cf mt op tk tp fp sk kd KN PN SZ G) (hF : F < 100) (hx : x = -1 ∨ ∃ p, p < NC ∧ x = nI p) (hz : z1 + z0 = nI F) (hY : ∀ post : Int32 → SY → Prop, wY_newClass_39 post x z0 z1 (nI NC) (nI NT) (nI SP) mn no nb ya yw yv yu yo yk yp ye cp cf mt kd tk tp sk yoc yof ybt ybp sv vr ow ed wa yh vl ypr mo mb → wpY_newClass post (nI NC, nI NT, nI SP, mn, no, nb, ya, yw, yv, yu, yo, yk, yp, ye, cp, cf, mt, kd, tk, tp, sk, yoc, yof, ybt, ybp, sv, vr, ow, ed, wa, yh, vl, ypr, mo, mb) v1 v2) : wX_newClass_43 (fun r u' => wpY_newClass (fun r' v' => r' = r ∧ rk_R u' v') (nI NC, nI NT, nI SP, mn, no, nb, ya, yw, yv, yu, yo, yk, yp, ye, cp, cf, mt, kd, tk, tp, sk, yoc, yof, ybt, ybp, sv, vr, ow, ed, wa, yh, vl, ypr, mo, mb) v1 v2) x (nI F) (nI NC) (nI NT) (nI SP) mn n na f ws vs en rs pc tc dc cp cf mt op tk tp fp sk oc of bt ba rd sl ac af fa fw fv wt wd wv pr mc := by
  have hN : NC ≤ 6 := S.1.1
  by_cases h4 : 4 < F
  · exact nc_x1 _ h4 hF (hY _ (nc_y1 _ hz h4 hF ⟨rfl, rk_i S⟩))
  · by_cases e : NC = 6
    · subst e
      exact nc_x2 _ (by omega) (hY _ (nc_y2 _ hz (by omega) ⟨rfl, rk_i S⟩))
    · exact nc_x3 _ (by omega) (by omega) (hY _ (nc_y3 _ hz (by omega) (by omega) ⟨rfl, rk_i (nc_S S (by omega) (by omega) hx)⟩))
theorem im_newClass {u : SX} {v : SY} (I : rk_R u v) (v1 v2 : Int32) : wpX_newClass (fun r u' => wpY_newClass (fun r' v' => r' = r ∧ rk_R u' v') v v1 v2) u v1 v2 := by
  obtain ⟨NC, NT, SP, KN, PN, SZ, G, mn, n, na, f, ws, vs, en, pc, tc, dc, no, nb, ya, yw, yv, yu, yo, yk, yp, ye, rs, cp, cf, mt, op, tk, tp, fp, sk, oc, bt, ba, rd, ac, af, fa, fw, fv, wt, wd, pr, mc, kd, yoc, ybt, ybp, ow, ed, wa, yh, ypr, mo, mb, of, sl, wv, yof, sv, vr, vl, rfl, rfl, S⟩ := I
  have hN : NC ≤ 6 := S.1.1
  have hT : NT ≤ 100 := S.1.2.1
  have h8 : SP ≤ 8 := S.2.1
  by_cases hm : v1 = -1
  · subst hm
    refine br_t rfl ?_
    by_cases h : v2 < 0
    · exact br_t h (br_f (by decide) (br_f (nc_m1 hN) (br_t h ⟨rfl, rk_i S⟩)))
    · obtain ⟨o, ho, rfl⟩ := nI_of h
      by_cases h4 : 4 < o
      · exact br_f h (br_f (nI_ge (a := 4) h4 ho) (br_f (by decide) (br_f (nc_m1 hN) (br_f h (br_f (nI_ge (a := 4) h4 ho) ⟨rfl, rk_i S⟩)))))
      · exact br_f h (br_t (nI_le (b := 4) (by omega) (by decide)) (br_t rfl (nc_go (F := o) (z0 := 0) (z1 := nI o) S (by omega) (Or.inl rfl) (nI_add o 0) (fun post hp => br_f (by decide) (br_f (nc_m1 hN) (br_f h (br_t (nI_le (b := 4) (by omega) (by decide)) (br_f (by decide) hp))))))))
  · refine br_f hm ?_
    obtain ⟨r, hr⟩ := fi_ex NC v1
    refine fx_cls _ hN hr ?_
    rcases hr with ⟨rfl, h⟩ | ⟨j, hj, rfl, ⟨rfl, h⟩ | ⟨rfl, h⟩⟩
    · exact br_t rfl (br_t (fb_m h hm) ⟨rfl, rk_i S⟩)
    · exact br_t rfl (br_f (fi_nm1 (nI_pos hj)) (br_t (nI_le h hj) ⟨rfl, rk_i S⟩))
    · refine br_f (by decide) ?_
      obtain ⟨fj, hfj, ef⟩ := (S.1.2.2.1 j h).2.1
      by_cases h0 : v2 < 0
      · exact br_t h0 (br_f (fi_nm1 (nI_pos hj)) (br_f (nI_ge h (by omega)) (br_t h0 ⟨rfl, rk_i S⟩)))
      · obtain ⟨o, ho, rfl⟩ := nI_of h0
        by_cases h4 : 4 < o
        · exact br_f h0 (br_f (nI_ge (a := 4) h4 ho) (br_f (fi_nm1 (nI_pos hj)) (br_f (nI_ge h (by omega)) (br_f h0 (br_f (nI_ge (a := 4) h4 ho) ⟨rfl, rk_i S⟩)))))
        · have ea : nI o + cf (nI j).toNatClampNeg = nI (o + fj) := by rw [nI_clamp hj, ef, nI_add]
          refine br_f h0 (br_t (nI_le (b := 4) (by omega) (by decide)) (br_f hm (And.intro (vp_in_nI (by omega) (by decide)) ?_)))
          rw [ea]
          exact nc_go (F := o + fj) (z0 := cf (nI j).toNatClampNeg) (z1 := nI o) S (by omega) (Or.inr ⟨j, h, rfl⟩) ea (fun post hp => br_f (fi_nm1 (nI_pos hj)) (br_f (nI_ge h (by omega)) (br_f h0 (br_t (nI_le (b := 4) (by omega) (by decide)) (br_t (nI_pos' hj) (And.intro (vp_in_nI (by omega) (by decide)) hp))))))
end
section
section
variable {NC NT : Nat} {ns mn : Int32} {cp cf mt op tk tp fp sk kd py : Nat → Int32} {KN PN SZ : Nat → Nat}
theorem fr_k {SP : Nat} {G : Nat → Nat} {u' : SX} {v' : SY} (S : sg_S NC NT SP mn cp cf mt op tk tp fp sk kd KN PN SZ G) (F : fr_R NC NT (nI SP) mn cp cf mt op tk tp fp sk kd py KN PN SZ u' v') : rk_R u' v' := by
  obtain ⟨N, A, T, Pc, D, ob, na1, f1, ws1, vs1, en1, ya1, yw1, yv1, yu1, rs1, oc1, bt1, ba1, rd1, ac1, af1, fa1, fw1, fv1, wt1, wd1, pr1, mc1, of1, sl1, wv1, yoc1, ybt1, ybp1, ow1, ed1, wa1, yh1, mo1, mb1, yof1, sv1, vr1, vl1, rfl, rfl, _⟩ := F
  exact rk_i S
end
theorem qx_sort (post : Int32 → Prop) {x : Int64} {s : Int32} (h : vb_T x = s) (hp : post s) : wpX_sortOf post x := by
  subst h
  exact hp
theorem qx_num (post : Int32 → Prop) {s i : Int32} (h : post i) : wpX_numberOf post (vb_pk s i) := by
  unfold wpX_numberOf
  rw [vb_n]
  exact h
theorem im_run {u : SX} {v : SY} (I : rk_R u v) : wpX_run (fun r u' => wpY_run (fun r' v' => r' = r ∧ rk_R u' v') v) u := by
  obtain ⟨NC, NT, SP, KN, PN, SZ, G, mn, n, na, f, ws, vs, en, pc, tc, dc, no, nb, ya, yw, yv, yu, yo, yk, yp, ye, rs, cp, cf, mt, op, tk, tp, fp, sk, oc, bt, ba, rd, ac, af, fa, fw, fv, wt, wd, pr, mc, kd, yoc, ybt, ybp, ow, ed, wa, yh, ypr, mo, mb, of, sl, wv, yof, sv, vr, vl, rfl, rfl, S⟩ := I
  obtain ⟨u', v', F, gX, gY⟩ := pf_go (ns := nI SP) (sk := sk) (py := ypr) S.1 S.2.2.2.2 (n := n) (na := na) (f := f) (ws := ws) (vs := vs) (en := en) (pc := pc) (tc := tc) (dc := dc) (no := no) (nb := nb) (ya := ya) (yw := yw) (yv := yv) (yu := yu) (yo := yo) (yk := yk) (yp := yp) (ye := ye) (rs := rs) (oc := oc) (bt := bt) (ba := ba) (rd := rd) (ac := ac) (af := af) (fa := fa) (fw := fw) (fv := fv) (wt := wt) (wd := wd) (pr := pr) (mc := mc) (yoc := yoc) (ybt := ybt) (ybp := ybp) (ow := ow) (ed := ed) (wa := wa) (yh := yh) (mo := mo) (mb := mb) (of := of) (sl := sl) (wv := wv) (yof := yof) (sv := sv) (vr := vr) (vl := vl)
  have R := fr_k S F
  obtain ⟨N, A, T, Pc, D, ob, na1, f1, ws1, vs1, en1, ya1, yw1, yv1, yu1, rs1, oc1, bt1, ba1, rd1, ac1, af1, fa1, fw1, fv1, wt1, wd1, pr1, mc1, of1, sl1, wv1, yoc1, ybt1, ybp1, ow1, ed1, wa1, yh1, mo1, mb1, yof1, sv1, vr1, vl1, rfl, rfl, hen, ⟨hN, hP⟩, ⟨hm, ho⟩, hd⟩ := F
  exact gX _ (gY _ ⟨rfl, R⟩)
theorem im_printed {u : SX} {v : SY} (I : rk_R u v) : wpX_printed (fun r u' => wpY_printed (fun r' v' => r' = r ∧ rk_R u' v') v) u := by
  obtain ⟨NC, NT, SP, KN, PN, SZ, G, mn, n, na, f, ws, vs, en, pc, tc, dc, no, nb, ya, yw, yv, yu, yo, yk, yp, ye, rs, cp, cf, mt, op, tk, tp, fp, sk, oc, bt, ba, rd, ac, af, fa, fw, fv, wt, wd, pr, mc, kd, yoc, ybt, ybp, ow, ed, wa, yh, ypr, mo, mb, of, sl, wv, yof, sv, vr, vl, rfl, rfl, S⟩ := I
  obtain ⟨u', v', F, gX, gY⟩ := pf_go (ns := nI SP) (sk := sk) (py := ypr) S.1 S.2.2.2.2 (n := n) (na := na) (f := f) (ws := ws) (vs := vs) (en := en) (pc := pc) (tc := tc) (dc := dc) (no := no) (nb := nb) (ya := ya) (yw := yw) (yv := yv) (yu := yu) (yo := yo) (yk := yk) (yp := yp) (ye := ye) (rs := rs) (oc := oc) (bt := bt) (ba := ba) (rd := rd) (ac := ac) (af := af) (fa := fa) (fw := fw) (fv := fv) (wt := wt) (wd := wd) (pr := pr) (mc := mc) (yoc := yoc) (ybt := ybt) (ybp := ybp) (ow := ow) (ed := ed) (wa := wa) (yh := yh) (mo := mo) (mb := mb) (of := of) (sl := sl) (wv := wv) (yof := yof) (sv := sv) (vr := vr) (vl := vl)
  have R := fr_k S F
  obtain ⟨N, A, T, Pc, D, ob, na1, f1, ws1, vs1, en1, ya1, yw1, yv1, yu1, rs1, oc1, bt1, ba1, rd1, ac1, af1, fa1, fw1, fv1, wt1, wd1, pr1, mc1, of1, sl1, wv1, yoc1, ybt1, ybp1, ow1, ed1, wa1, yh1, mo1, mb1, yof1, sv1, vr1, vl1, rfl, rfl, hen, ⟨hN, hP⟩, ⟨hm, ho⟩, hd⟩ := F
  exact gX _ (gY _ ⟨rfl, R⟩)
theorem im_turns {u : SX} {v : SY} (I : rk_R u v) : wpX_turns (fun r u' => wpY_turns (fun r' v' => r' = r ∧ rk_R u' v') v) u := by
  obtain ⟨NC, NT, SP, KN, PN, SZ, G, mn, n, na, f, ws, vs, en, pc, tc, dc, no, nb, ya, yw, yv, yu, yo, yk, yp, ye, rs, cp, cf, mt, op, tk, tp, fp, sk, oc, bt, ba, rd, ac, af, fa, fw, fv, wt, wd, pr, mc, kd, yoc, ybt, ybp, ow, ed, wa, yh, ypr, mo, mb, of, sl, wv, yof, sv, vr, vl, rfl, rfl, S⟩ := I
  obtain ⟨u', v', F, gX, gY⟩ := pf_go (ns := nI SP) (sk := sk) (py := ypr) S.1 S.2.2.2.2 (n := n) (na := na) (f := f) (ws := ws) (vs := vs) (en := en) (pc := pc) (tc := tc) (dc := dc) (no := no) (nb := nb) (ya := ya) (yw := yw) (yv := yv) (yu := yu) (yo := yo) (yk := yk) (yp := yp) (ye := ye) (rs := rs) (oc := oc) (bt := bt) (ba := ba) (rd := rd) (ac := ac) (af := af) (fa := fa) (fw := fw) (fv := fv) (wt := wt) (wd := wd) (pr := pr) (mc := mc) (yoc := yoc) (ybt := ybt) (ybp := ybp) (ow := ow) (ed := ed) (wa := wa) (yh := yh) (mo := mo) (mb := mb) (of := of) (sl := sl) (wv := wv) (yof := yof) (sv := sv) (vr := vr) (vl := vl)
  have R := fr_k S F
  obtain ⟨N, A, T, Pc, D, ob, na1, f1, ws1, vs1, en1, ya1, yw1, yv1, yu1, rs1, oc1, bt1, ba1, rd1, ac1, af1, fa1, fw1, fv1, wt1, wd1, pr1, mc1, of1, sl1, wv1, yoc1, ybt1, ybp1, ow1, ed1, wa1, yh1, mo1, mb1, yof1, sv1, vr1, vl1, rfl, rfl, hen, ⟨hN, hP⟩, ⟨hm, ho⟩, hd⟩ := F
  exact gX _ (gY _ ⟨rfl, R⟩)
theorem im_deepest {u : SX} {v : SY} (I : rk_R u v) : wpX_deepest (fun r u' => wpY_deepest (fun r' v' => r' = r ∧ rk_R u' v') v) u := by
  obtain ⟨NC, NT, SP, KN, PN, SZ, G, mn, n, na, f, ws, vs, en, pc, tc, dc, no, nb, ya, yw, yv, yu, yo, yk, yp, ye, rs, cp, cf, mt, op, tk, tp, fp, sk, oc, bt, ba, rd, ac, af, fa, fw, fv, wt, wd, pr, mc, kd, yoc, ybt, ybp, ow, ed, wa, yh, ypr, mo, mb, of, sl, wv, yof, sv, vr, vl, rfl, rfl, S⟩ := I
  obtain ⟨u', v', F, gX, gY⟩ := pf_go (ns := nI SP) (sk := sk) (py := ypr) S.1 S.2.2.2.2 (n := n) (na := na) (f := f) (ws := ws) (vs := vs) (en := en) (pc := pc) (tc := tc) (dc := dc) (no := no) (nb := nb) (ya := ya) (yw := yw) (yv := yv) (yu := yu) (yo := yo) (yk := yk) (yp := yp) (ye := ye) (rs := rs) (oc := oc) (bt := bt) (ba := ba) (rd := rd) (ac := ac) (af := af) (fa := fa) (fw := fw) (fv := fv) (wt := wt) (wd := wd) (pr := pr) (mc := mc) (yoc := yoc) (ybt := ybt) (ybp := ybp) (ow := ow) (ed := ed) (wa := wa) (yh := yh) (mo := mo) (mb := mb) (of := of) (sl := sl) (wv := wv) (yof := yof) (sv := sv) (vr := vr) (vl := vl)
  have R := fr_k S F
  obtain ⟨N, A, T, Pc, D, ob, na1, f1, ws1, vs1, en1, ya1, yw1, yv1, yu1, rs1, oc1, bt1, ba1, rd1, ac1, af1, fa1, fw1, fv1, wt1, wd1, pr1, mc1, of1, sl1, wv1, yoc1, ybt1, ybp1, ow1, ed1, wa1, yh1, mo1, mb1, yof1, sv1, vr1, vl1, rfl, rfl, hen, ⟨hN, hP⟩, ⟨hm, ho⟩, hd⟩ := F
  exact gX _ (gY _ ⟨rfl, R⟩)
theorem im_output {u : SX} {v : SY} (I : rk_R u v) (v1 : Int32) : wpX_output (fun r u' => wpY_output (fun r' v' => r' = r ∧ rk_R u' v') v v1) u v1 := by
  obtain ⟨NC, NT, SP, KN, PN, SZ, G, mn, n, na, f, ws, vs, en, pc, tc, dc, no, nb, ya, yw, yv, yu, yo, yk, yp, ye, rs, cp, cf, mt, op, tk, tp, fp, sk, oc, bt, ba, rd, ac, af, fa, fw, fv, wt, wd, pr, mc, kd, yoc, ybt, ybp, ow, ed, wa, yh, ypr, mo, mb, of, sl, wv, yof, sv, vr, vl, rfl, rfl, S⟩ := I
  obtain ⟨u', v', F, gX, gY⟩ := pf_go (ns := nI SP) (sk := sk) (py := ypr) S.1 S.2.2.2.2 (n := n) (na := na) (f := f) (ws := ws) (vs := vs) (en := en) (pc := pc) (tc := tc) (dc := dc) (no := no) (nb := nb) (ya := ya) (yw := yw) (yv := yv) (yu := yu) (yo := yo) (yk := yk) (yp := yp) (ye := ye) (rs := rs) (oc := oc) (bt := bt) (ba := ba) (rd := rd) (ac := ac) (af := af) (fa := fa) (fw := fw) (fv := fv) (wt := wt) (wd := wd) (pr := pr) (mc := mc) (yoc := yoc) (ybt := ybt) (ybp := ybp) (ow := ow) (ed := ed) (wa := wa) (yh := yh) (mo := mo) (mb := mb) (of := of) (sl := sl) (wv := wv) (yof := yof) (sv := sv) (vr := vr) (vl := vl)
  have R := fr_k S F
  obtain ⟨N, A, T, Pc, D, ob, na1, f1, ws1, vs1, en1, ya1, yw1, yv1, yu1, rs1, oc1, bt1, ba1, rd1, ac1, af1, fa1, fw1, fv1, wt1, wd1, pr1, mc1, of1, sl1, wv1, yoc1, ybt1, ybp1, ow1, ed1, wa1, yh1, mo1, mb1, yof1, sv1, vr1, vl1, rfl, rfl, hen, ⟨hN, hP⟩, ⟨hm, ho⟩, hd⟩ := F
  rcases pk_ix v1 (n := Pc) (by omega) with h | h | ⟨j, hj, rfl⟩
  · exact gX _ (br_t h (gY _ (br_t h ⟨rfl, R⟩)))
  · have h0 : ¬ v1 < 0 := fun z => by
      rw [Int32.lt_iff_toInt_lt, show (0 : Int32).toInt = 0 from by decide] at z
      rw [Int32.le_iff_toInt_le, nI_toInt (by omega)] at h
      omega
    exact gX _ (br_f h0 (br_t h (gY _ (br_f h0 (br_t h ⟨rfl, R⟩)))))
  · exact gX _ (br_f (nI_pos (by omega)) (br_f (nI_ge hj (by omega)) (And.intro (vp_in_nI (by omega) (by decide)) (gY _ (br_f (nI_pos (by omega)) (br_f (nI_ge hj (by omega)) (And.intro (vp_in_nI (by omega) (by decide)) ⟨by rw [nI_clamp (by omega)]; exact pe_lt hj, R⟩)))))))
end
section
theorem im_value {u : SX} {v : SY} (I : rk_R u v) : wpX_value (fun r u' => wpY_value (fun r' v' => r' = r ∧ rk_R u' v') v) u := by
  obtain ⟨NC, NT, SP, KN, PN, SZ, G, mn, n, na, f, ws, vs, en, pc, tc, dc, no, nb, ya, yw, yv, yu, yo, yk, yp, ye, rs, cp, cf, mt, op, tk, tp, fp, sk, oc, bt, ba, rd, ac, af, fa, fw, fv, wt, wd, pr, mc, kd, yoc, ybt, ybp, ow, ed, wa, yh, ypr, mo, mb, of, sl, wv, yof, sv, vr, vl, rfl, rfl, S⟩ := I
  obtain ⟨u', v', F, gX, gY⟩ := pf_go (ns := nI SP) (sk := sk) (py := ypr) S.1 S.2.2.2.2 (n := n) (na := na) (f := f) (ws := ws) (vs := vs) (en := en) (pc := pc) (tc := tc) (dc := dc) (no := no) (nb := nb) (ya := ya) (yw := yw) (yv := yv) (yu := yu) (yo := yo) (yk := yk) (yp := yp) (ye := ye) (rs := rs) (oc := oc) (bt := bt) (ba := ba) (rd := rd) (ac := ac) (af := af) (fa := fa) (fw := fw) (fv := fv) (wt := wt) (wd := wd) (pr := pr) (mc := mc) (yoc := yoc) (ybt := ybt) (ybp := ybp) (ow := ow) (ed := ed) (wa := wa) (yh := yh) (mo := mo) (mb := mb) (of := of) (sl := sl) (wv := wv) (yof := yof) (sv := sv) (vr := vr) (vl := vl)
  have R := fr_k S F
  obtain ⟨N, A, T, Pc, D, ob, na1, f1, ws1, vs1, en1, ya1, yw1, yv1, yu1, rs1, oc1, bt1, ba1, rd1, ac1, af1, fa1, fw1, fv1, wt1, wd1, pr1, mc1, of1, sl1, wv1, yoc1, ybt1, ybp1, ow1, ed1, wa1, yh1, mo1, mb1, yof1, sv1, vr1, vl1, rfl, rfl, hen, ⟨hN, hP⟩, ⟨hm, ho⟩, hd⟩ := F
  by_cases e : en1 = 0
  · obtain ⟨_, _, _, hv⟩ := hd e
    have T := vB_T hv
    by_cases h2 : vb_T rs1 = 2
    · obtain ⟨e1, e2⟩ := vB_2 hv h2
      have Y1 : ∀ (u : SY) (P : Int32 → Prop), P rs1.toInt32 → wpY_number P u (vl1 0) := fun u P hP => by
        rw [e1]
        unfold wpY_number
        dsimp only
        exact hP
      have X1 : ∀ P : Int32 → Prop, P rs1.toInt32 → wpX_numberOf P rs1 := fun P hP => hP
      exact gX _ (br_t e (qx_sort _ h2 (br_t rfl (X1 _ (gY _ (br_t e (ay_type _ (T.symm.trans h2) (br_t rfl (Y1 _ _ ⟨rfl, R⟩)))))))))
    · exact gX _ (br_t e (qx_sort _ rfl (br_f h2 (gY _ (br_t e (ay_type _ T.symm (br_f h2 ⟨rfl, R⟩)))))))
  · exact gX _ (br_f e (gY _ (br_f e ⟨rfl, R⟩)))
theorem im_kind {u : SX} {v : SY} (I : rk_R u v) : wpX_kind (fun r u' => wpY_kind (fun r' v' => r' = r ∧ rk_R u' v') v) u := by
  obtain ⟨NC, NT, SP, KN, PN, SZ, G, mn, n, na, f, ws, vs, en, pc, tc, dc, no, nb, ya, yw, yv, yu, yo, yk, yp, ye, rs, cp, cf, mt, op, tk, tp, fp, sk, oc, bt, ba, rd, ac, af, fa, fw, fv, wt, wd, pr, mc, kd, yoc, ybt, ybp, ow, ed, wa, yh, ypr, mo, mb, of, sl, wv, yof, sv, vr, vl, rfl, rfl, S⟩ := I
  obtain ⟨u', v', F, gX, gY⟩ := pf_go (ns := nI SP) (sk := sk) (py := ypr) S.1 S.2.2.2.2 (n := n) (na := na) (f := f) (ws := ws) (vs := vs) (en := en) (pc := pc) (tc := tc) (dc := dc) (no := no) (nb := nb) (ya := ya) (yw := yw) (yv := yv) (yu := yu) (yo := yo) (yk := yk) (yp := yp) (ye := ye) (rs := rs) (oc := oc) (bt := bt) (ba := ba) (rd := rd) (ac := ac) (af := af) (fa := fa) (fw := fw) (fv := fv) (wt := wt) (wd := wd) (pr := pr) (mc := mc) (yoc := yoc) (ybt := ybt) (ybp := ybp) (ow := ow) (ed := ed) (wa := wa) (yh := yh) (mo := mo) (mb := mb) (of := of) (sl := sl) (wv := wv) (yof := yof) (sv := sv) (vr := vr) (vl := vl)
  have R := fr_k S F
  obtain ⟨N, A, T, Pc, D, ob, na1, f1, ws1, vs1, en1, ya1, yw1, yv1, yu1, rs1, oc1, bt1, ba1, rd1, ac1, af1, fa1, fw1, fv1, wt1, wd1, pr1, mc1, of1, sl1, wv1, yoc1, ybt1, ybp1, ow1, ed1, wa1, yh1, mo1, mb1, yof1, sv1, vr1, vl1, rfl, rfl, hen, ⟨hN, hP⟩, ⟨hm, ho⟩, hd⟩ := F
  by_cases e : en1 = 0
  · obtain ⟨_, _, H, hv⟩ := hd e
    have T := vB_T hv
    by_cases h4 : vb_T rs1 = 4
    · obtain ⟨t, ht, hb, e1, e2⟩ := vB_4 hv h4
      obtain ⟨⟨c, hc, c1, c2⟩, _⟩ := H.1 t ht hb
      have g1 := cu_gt hb ht
      have g2 := cu_le ob N
      subst e1
      exact gX _ (br_t e (qx_sort _ h4 (br_t rfl (qx_num _ (And.intro (vp_in_nI (by omega) (by decide)) (gY _ (br_t e (ay_type _ (T.symm.trans h4) (br_t (by decide) (by rw [e2]; exact ay_num _ (And.intro (vp_in_nI (by omega) (by decide)) ⟨by rw [nI_clamp (by omega), nI_clamp (by omega), c1, c2], R⟩)))))))))))
    · have n4 : ¬ 4 ≤ vb_T rs1 := by
        rcases hv with ⟨z, _⟩ | ⟨i, z, _⟩ | ⟨t, _, _, z, _⟩ | ⟨t, _, _, z, _⟩
        · rw [z, vC_1]; decide
        · rw [z, vC_2]; decide
        · rw [z, vC_3]; decide
        · exact absurd (by rw [z, vC_4]) h4
      exact gX _ (br_t e (qx_sort _ rfl (br_f h4 (gY _ (br_t e (ay_type _ T.symm (br_f n4 ⟨rfl, R⟩)))))))
  · exact gX _ (br_f e (gY _ (br_f e ⟨rfl, R⟩)))
section
variable {yc yt ys ym no nb ya yw yv yu yo yk yp ye : Int32} {ycp ycf ymt kd ytk ytp ysk yoc ybt ybp ow ed wa yh ypr mo mb : Nat → Int32} {yof sv vr vl : Nat → Int64}
theorem md_y (post : Int32 → SY → Prop) {O : Nat} {x : Int32} (hO : O ≤ 200) (ct : Nat → Nat) (hs : ∀ i, i < O → (yoc i = x ∧ ct (i + 1) = ct i + 1) ∨ (¬ yoc i = x ∧ ct (i + 1) = ct i)) (hp : post (nI (ct O)) (yc, yt, ys, ym, nI O, nb, ya, yw, yv, yu, yo, yk, yp, ye, ycp, ycf, ymt, kd, ytk, ytp, ysk, yoc, yof, ybt, ybp, sv, vr, ow, ed, wa, yh, vl, ypr, mo, mb)) : ∀ e k : Nat, k + e = O → wY_made_8 post x yc yt ys ym (nI O) nb ya yw yv yu yo yk yp ye ycp ycf ymt kd ytk ytp ysk yoc yof ybt ybp sv vr ow ed wa yh vl ypr mo mb (e + 1) (nI (ct k)) (nI k) := by
  intro e
  induction e with
  | zero =>
    intro k h
    have : k = O := by omega
    subst this
    exact br_t (nI_le (Nat.le_refl _) (by omega)) hp
  | succ e ih =>
    intro k h
    have I := ih (k + 1) (by omega)
    rcases hs k (by omega) with ⟨a, b⟩ | ⟨a, b⟩
    · rw [b] at I
      exact br_f (nI_ge (by omega) (by omega)) (And.intro (vp_in_nI (by omega) (by decide)) (br_t (by rw [nI_clamp (by omega)]; exact a) (nm_r (nI_1 _) (nm_r (nI_1 k) I))))
    · rw [b] at I
      exact br_f (nI_ge (by omega) (by omega)) (And.intro (vp_in_nI (by omega) (by decide)) (br_f (by rw [nI_clamp (by omega)]; exact a) (nm_r (nI_1 k) I)))
end
theorem im_made {u : SX} {v : SY} (I : rk_R u v) (v1 : Int32) : wpX_made (fun r u' => wpY_made (fun r' v' => r' = r ∧ rk_R u' v') v v1) u v1 := by
  obtain ⟨NC, NT, SP, KN, PN, SZ, G, mn, n, na, f, ws, vs, en, pc, tc, dc, no, nb, ya, yw, yv, yu, yo, yk, yp, ye, rs, cp, cf, mt, op, tk, tp, fp, sk, oc, bt, ba, rd, ac, af, fa, fw, fv, wt, wd, pr, mc, kd, yoc, ybt, ybp, ow, ed, wa, yh, ypr, mo, mb, of, sl, wv, yof, sv, vr, vl, rfl, rfl, S⟩ := I
  have hN6 : NC ≤ 6 := S.1.1
  obtain ⟨u', v', F, gX, gY⟩ := pf_go (ns := nI SP) (sk := sk) (py := ypr) S.1 S.2.2.2.2 (n := n) (na := na) (f := f) (ws := ws) (vs := vs) (en := en) (pc := pc) (tc := tc) (dc := dc) (no := no) (nb := nb) (ya := ya) (yw := yw) (yv := yv) (yu := yu) (yo := yo) (yk := yk) (yp := yp) (ye := ye) (rs := rs) (oc := oc) (bt := bt) (ba := ba) (rd := rd) (ac := ac) (af := af) (fa := fa) (fw := fw) (fv := fv) (wt := wt) (wd := wd) (pr := pr) (mc := mc) (yoc := yoc) (ybt := ybt) (ybp := ybp) (ow := ow) (ed := ed) (wa := wa) (yh := yh) (mo := mo) (mb := mb) (of := of) (sl := sl) (wv := wv) (yof := yof) (sv := sv) (vr := vr) (vl := vl)
  have R := fr_k S F
  obtain ⟨N, A, T, Pc, D, ob, na1, f1, ws1, vs1, en1, ya1, yw1, yv1, yu1, rs1, oc1, bt1, ba1, rd1, ac1, af1, fa1, fw1, fv1, wt1, wd1, pr1, mc1, of1, sl1, wv1, yoc1, ybt1, ybp1, ow1, ed1, wa1, yh1, mo1, mb1, yof1, sv1, vr1, vl1, rfl, rfl, hen, ⟨hN, hP⟩, ⟨hm, ho⟩, hd⟩ := F
  have hO := cu_le ob N
  obtain ⟨r, hr⟩ := fi_ex NC v1
  unfold wpX_made
  refine fx_cls _ hN6 hr ?_
  rcases hr with ⟨rfl, h⟩ | ⟨j, hj, rfl, ⟨rfl, h⟩ | ⟨rfl, h⟩⟩
  · refine br_t rfl (gY _ (Exists.intro _ (md_y _ (x := v1) (by omega) (fun _ => 0) (fun i hi => Or.inr ⟨fun z => ?_, rfl⟩) ⟨rfl, rk_i S⟩ (cu_O ob N) 0 (by omega))))
    obtain ⟨c, hc, ec⟩ := ho i hi
    rw [ec] at z
    rw [← z] at h
    exact nI_pos (by omega) h
  · refine br_t rfl (gY _ (Exists.intro _ (md_y _ (x := nI j) (by omega) (fun _ => 0) (fun i hi => Or.inr ⟨fun z => ?_, rfl⟩) ⟨rfl, rk_i S⟩ (cu_O ob N) 0 (by omega))))
    obtain ⟨c, hc, ec⟩ := ho i hi
    rw [ec, nI_eq (by omega) hj] at z
    omega
  · refine br_f (by decide) (gX _ (And.intro (vp_in_nI (by omega) (by decide)) (gY _ (Exists.intro _ (md_y _ (x := nI j) (by omega) (cu_n yoc1 j) (fun i hi => ?_) ⟨?_, R⟩ (cu_O ob N) 0 (by omega))))))
    · by_cases z : yoc1 i = nI j
      · refine Or.inl ⟨z, ?_⟩
        show cu_n yoc1 j i + (if yoc1 i = nI j then 1 else 0) = cu_n yoc1 j i + 1
        rw [if_pos z]
      · refine Or.inr ⟨z, ?_⟩
        show cu_n yoc1 j i + (if yoc1 i = nI j then 1 else 0) = cu_n yoc1 j i
        rw [if_neg z, Nat.add_zero]
    · rw [nI_clamp (by omega)]
      exact (hm j h).symm
end
section
/-! counting -/
def cn_z (p : Nat → Int32) : Nat → Nat
  | 0 => 0
  | n + 1 => cn_z p n + (if p n = 0 then 0 else 1)
theorem cn_le (p : Nat → Int32) : ∀ n, cn_z p n ≤ n
  | 0 => Nat.le_refl _
  | n + 1 => by
    have := cn_le p n
    show cn_z p n + (if p n = 0 then 0 else 1) ≤ n + 1
    split <;> omega
theorem cn_cg {p q : Nat → Int32} : ∀ {n : Nat}, (∀ t, t < n → (p t = 0 ↔ q t = 0)) → cn_z p n = cn_z q n
  | 0, _ => rfl
  | n + 1, h => by
    show cn_z p n + (if p n = 0 then 0 else 1) = cn_z q n + (if q n = 0 then 0 else 1)
    rw [cn_cg (fun t ht => h t (by omega))]
    by_cases z : p n = 0
    · rw [if_pos z, if_pos ((h n (by omega)).mp z)]
    · rw [if_neg z, if_neg (fun y => z ((h n (by omega)).mpr y))]
theorem cn_up {p : Nat → Int32} {t : Nat} (h : p t = 0) : ∀ {n : Nat}, t < n → cn_z (upd p t 1) n = cn_z p n + 1
  | 0, h => absurd h (Nat.not_lt_zero _)
  | n + 1, hn => by
    show cn_z (upd p t 1) n + (if upd p t 1 n = 0 then 0 else 1) = cn_z p n + (if p n = 0 then 0 else 1) + 1
    by_cases e : t = n
    · subst e
      rw [cn_cg (q := p) (fun s hs => by rw [pk_un (show s ≠ t by omega)]), pk_us, if_pos h, if_neg (by decide)]
    · rw [cn_up h (by omega), pk_un (show n ≠ t by omega)]
      omega
theorem cn_0 : ∀ n, cn_z (fun _ => 0) n = 0
  | 0 => rfl
  | n + 1 => by
    show cn_z (fun _ => 0) n + (if (0 : Int32) = 0 then 0 else 1) = 0
    rw [cn_0 n, if_pos rfl]
/-! every number is a thing's -/
theorem cu_st1 {ob : Nat → Bool} : ∀ {N o : Nat}, o < cu_O ob N → ∃ t, t < N ∧ ob t = true ∧ cu_g ob t = o
  | 0, o, h => absurd h (Nat.not_lt_zero _)
  | N + 1, o, h => by
    by_cases e : o < cu_O ob N
    · obtain ⟨t, a, b, c⟩ := cu_st1 e
      exact ⟨t, by omega, b, c⟩
    · cases z : ob N with
      | true =>
        rw [cu_st z] at h
        refine ⟨N, by omega, z, ?_⟩
        unfold cu_g
        rw [if_pos z]
        omega
      | false =>
        rw [cu_sf z] at h
        omega
theorem cu_st0 {ob : Nat → Bool} : ∀ {N o : Nat}, o < N - cu_O ob N → ∃ t, t < N ∧ ob t = false ∧ cu_g ob t = o
  | 0, o, h => absurd h (by omega)
  | N + 1, o, h => by
    have l := cu_le ob N
    by_cases e : o < N - cu_O ob N
    · obtain ⟨t, a, b, c⟩ := cu_st0 e
      exact ⟨t, by omega, b, c⟩
    · cases z : ob N with
      | true =>
        rw [cu_st z] at h
        omega
      | false =>
        rw [cu_sf z] at h
        refine ⟨N, by omega, z, ?_⟩
        unfold cu_g
        rw [if_neg (by rw [z]; exact Bool.noConfusion)]
        omega
/-! what is reached -/
def vf_R (ob : Nat → Bool) (x : Int64) (s : Nat) : Prop := (ob s = false ∧ x = vb_pk 3 (nI s)) ∨ (ob s = true ∧ x = vb_pk 4 (nI s))
def vf_V (A : Nat) (ob : Nat → Bool) (ba : Nat → Int32) (of sl : Nat → Int64) (t : Nat) (x : Int64) : Prop := (ob t = true ∧ ∃ k, k < 4 ∧ x = of (t * 4 + k)) ∨ (ob t = false ∧ ∃ a k, a < A ∧ k < 7 ∧ ba t = nI a ∧ x = sl (a * 7 + k))
def rc_C (N A : Nat) (ob : Nat → Bool) (ba : Nat → Int32) (of sl : Nat → Int64) (rs : Int64) (C : Nat → Prop) : Prop := (∀ s, s < N → vf_R ob rs s → C s) ∧ ∀ t, t < N → C t → ∀ x, vf_V A ob ba of sl t x → ∀ s, s < N → vf_R ob x s → C s
theorem vf_no {ob : Nat → Bool} {x : Int64} (h3 : ¬ vb_T x = 3) (h4 : ¬ vb_T x = 4) {s : Nat} : ¬ vf_R ob x s := fun z => by
  rcases z with ⟨_, e⟩ | ⟨_, e⟩
  · exact h3 (by rw [e, vC_3])
  · exact h4 (by rw [e, vC_4])
theorem vf_one {ob : Nat → Bool} {x : Int64} {s s' : Nat} (hs : s < 1000) (hs' : s' < 1000) (h : vf_R ob x s) (h' : vf_R ob x s') : s' = s := by
  rcases h with ⟨_, rfl⟩ | ⟨_, rfl⟩
  · rcases h' with ⟨_, e⟩ | ⟨_, e⟩
    · exact ((nI_eq (by omega) (by omega)).mp (vb_inj (by decide) (by decide) e).2).symm
    · exact absurd (vb_inj (by decide) (by decide) e).1 (by decide)
  · rcases h' with ⟨_, e⟩ | ⟨_, e⟩
    · exact absurd (vb_inj (by decide) (by decide) e).1 (by decide)
    · exact ((nI_eq (by omega) (by omega)).mp (vb_inj (by decide) (by decide) e).2).symm
/-- the value of thing t -/
def vf_pv (ob : Nat → Bool) (t : Nat) : Int64 := if ob t = true then vb_pk 4 (nI t) else vb_pk 3 (nI t)
theorem vf_pR {ob : Nat → Bool} {x : Int64} {s : Nat} (h : vf_R ob x s) : x = vf_pv ob s := by
  unfold vf_pv
  rcases h with ⟨a, e⟩ | ⟨a, e⟩
  · rw [if_neg (by rw [a]; exact Bool.noConfusion)]; exact e
  · rw [if_pos a]; exact e
theorem xr_i4 {t k : Nat} : nI t * 4 + nI k = nI (t * 4 + k) := by
  rw [show (4 : Int32) = nI 4 from rfl, pk_mul, nI_add]
theorem xr_i7 {t k : Nat} : nI t * 7 + nI k = nI (t * 7 + k) := by
  rw [show (7 : Int32) = nI 7 from rfl, pk_mul, nI_add]
/-! X's marks: rd, the waiting things wg 0 .. wg (w - 1), those done dn -/
def xr_J (N A : Nat) (ob : Nat → Bool) (ba : Nat → Int32) (of sl : Nat → Int64) (rs : Int64) (dn rd : Nat → Int32) (w : Nat) (wv : Nat → Int64) (wg : Nat → Nat) : Prop :=
  (∀ C, rc_C N A ob ba of sl rs C → ∀ t, t < N → ¬ rd t = 0 → C t)
  ∧ (∀ j, j < w → wg j < N ∧ wv j = vf_pv ob (wg j) ∧ ¬ rd (wg j) = 0 ∧ dn (wg j) = 0)
  ∧ (∀ j i, j < w → i < w → wg j = wg i → j = i)
  ∧ (∀ t, t < N → ¬ rd t = 0 → dn t = 0 → ∃ j, j < w ∧ wg j = t)
  ∧ (∀ t, t < N → rd t = 0 → dn t = 0)
  ∧ cn_z rd N = cn_z dn N + w
section
variable {nc nt ns mn n na f ws vs en pc tc dc : Int32} {rs : Int64} {cp cf mt op tk tp fp sk oc bt ba rd ac af fa fw fv wt wd pr mc : Nat → Int32} {of sl wv : Nat → Int64}
variable {N A w : Nat} {ob : Nat → Bool} {dn : Nat → Int32} {wg : Nat → Nat}
theorem xr_note {root x : Int64} (hN : N ≤ 200) (hx : (∃ s, s < N ∧ vf_R ob x s) ∨ (¬ vb_T x = 3 ∧ ¬ vb_T x = 4)) (hm : ∀ C, rc_C N A ob ba of sl root C → ∀ s, s < N → vf_R ob x s → C s) (J : xr_J N A ob ba of sl root dn rd w wv wg) : ∃ rd' w' wv' wg', xr_J N A ob ba of sl root dn rd' w' wv' wg' ∧ (∀ t, t < N → ¬ rd t = 0 → ¬ rd' t = 0) ∧ (∀ s, s < N → vf_R ob x s → ¬ rd' s = 0) ∧ ∀ post : SX → Prop, post (nc, nt, ns, mn, n, na, f, ws, nI w', en, rs, pc, tc, dc, cp, cf, mt, op, tk, tp, fp, sk, oc, of, bt, ba, rd', sl, ac, af, fa, fw, fv, wt, wd, wv', pr, mc) → wpX_noteReached post (nc, nt, ns, mn, n, na, f, ws, nI w, en, rs, pc, tc, dc, cp, cf, mt, op, tk, tp, fp, sk, oc, of, bt, ba, rd, sl, ac, af, fa, fw, fv, wt, wd, wv, pr, mc) x := by
  rcases hx with ⟨s, hs, hv⟩ | ⟨h3, h4⟩
  · have L : ∀ post : SX → Prop, wX_noteReached_16 post x nc nt ns mn n na f ws (nI w) en rs pc tc dc cp cf mt op tk tp fp sk oc of bt ba rd sl ac af fa fw fv wt wd wv pr mc → wpX_noteReached post (nc, nt, ns, mn, n, na, f, ws, nI w, en, rs, pc, tc, dc, cp, cf, mt, op, tk, tp, fp, sk, oc, of, bt, ba, rd, sl, ac, af, fa, fw, fv, wt, wd, wv, pr, mc) x := fun post hp => by
      unfold wpX_noteReached
      rcases hv with ⟨_, e⟩ | ⟨_, e⟩
      · exact qx_sort (s := 3) _ (by rw [e, vC_3]) (br_f (by decide) (br_t rfl hp))
      · exact qx_sort (s := 4) _ (by rw [e, vC_4]) (br_t rfl hp)
    have M : ∀ Q : Int32 → Prop, Q (nI s) → wpX_numberOf Q x := fun Q hQ => by
      rcases hv with ⟨_, e⟩ | ⟨_, e⟩
      · rw [e]; exact qx_num _ hQ
      · rw [e]; exact qx_num _ hQ
    by_cases z : rd s = 0
    · obtain ⟨J1, J2, J3, J4, J5, J6⟩ := J
      have wl : w < 2100 := by
        have := cn_le rd N
        omega
      refine ⟨upd rd s 1, w + 1, vp_updL wv w x, sg_u wg w s, ⟨?_, ?_, ?_, ?_, ?_, ?_⟩, ?_, ?_, fun post hp => L post ?_⟩
      · intro C hC t ht hr
        by_cases e : t = s
        · subst e; exact hm C hC t hs hv
        · rw [pk_un e] at hr; exact J1 C hC t ht hr
      · intro j hj
        by_cases e : j = w
        · subst e
          rw [sg_us, pk_uLs, pk_us]
          exact ⟨hs, vf_pR hv, by decide, J5 s hs z⟩
        · obtain ⟨a, b, c, d⟩ := J2 j (by omega)
          have ne : wg j ≠ s := fun y => c (by rw [y]; exact z)
          rw [sg_un e, pk_uLn e, pk_un ne]
          exact ⟨a, b, c, d⟩
      · intro j i hj hi he
        by_cases e : j = w
        · by_cases e' : i = w
          · omega
          · subst e
            rw [sg_us, sg_un e'] at he
            exact absurd (by rw [← he]; exact z) (J2 i (by omega)).2.2.1
        · by_cases e' : i = w
          · subst e'
            rw [sg_us, sg_un e] at he
            exact absurd (by rw [he]; exact z) (J2 j (by omega)).2.2.1
          · rw [sg_un e, sg_un e'] at he
            exact J3 j i (by omega) (by omega) he
      · intro t ht hr hd
        by_cases e : t = s
        · subst e
          exact ⟨w, by omega, sg_us⟩
        · rw [pk_un e] at hr
          obtain ⟨j, a, b⟩ := J4 t ht hr hd
          exact ⟨j, by omega, by rw [sg_un (by omega)]; exact b⟩
      · intro t ht hr
        by_cases e : t = s
        · subst e
          rw [pk_us] at hr
          exact absurd hr (by decide)
        · rw [pk_un e] at hr
          exact J5 t ht hr
      · rw [cn_up z hs]
        omega
      · intro t ht hr
        by_cases e : t = s
        · subst e
          rw [pk_us]; decide
        · rw [pk_un e]; exact hr
      · intro s' hs' hv'
        have e := vf_one (by omega) (by omega) hv hv'
        subst e
        rw [pk_us]; decide
      · exact M _ (And.intro (vp_in_nI (by omega) (by decide)) (br_t (by rw [nI_clamp (by omega)]; exact z) (And.intro (vp_in_nI (by omega) (by decide)) (nm_r (e' := upd rd s 1) (by rw [nI_clamp (by omega), ay_n1]) (ax_push _ wl hp)))))
    · refine ⟨rd, w, wv, wg, J, fun t ht hr => hr, fun s' hs' hv' => ?_, fun post hp => L post (M _ (And.intro (vp_in_nI (by omega) (by decide)) (br_f (by rw [nI_clamp (by omega)]; exact z) hp)))⟩
      rw [vf_one (by omega) (by omega) hv hv']
      exact z
  · exact ⟨rd, w, wv, wg, J, fun t ht hr => hr, fun s hs hv => absurd hv (vf_no h3 h4), fun post hp => by
      unfold wpX_noteReached
      exact qx_sort _ rfl (br_f h4 (br_f h3 hp))⟩
theorem xr_fl {root : Int64} {t : Nat} (hN : N ≤ 200) (ht : t < N) (hb : ob t = true) (hV : ∀ k, k < 4 → (∃ s, s < N ∧ vf_R ob (of (t * 4 + k)) s) ∨ (¬ vb_T (of (t * 4 + k)) = 3 ∧ ¬ vb_T (of (t * 4 + k)) = 4)) (hC : ∀ C, rc_C N A ob ba of sl root C → C t) : ∀ e k : Nat, k + e = 4 → ∀ (rd : Nat → Int32) (w : Nat) (wv : Nat → Int64) (wg : Nat → Nat), xr_J N A ob ba of sl root dn rd w wv wg → ∃ rd' w' wv' wg', xr_J N A ob ba of sl root dn rd' w' wv' wg' ∧ (∀ t, t < N → ¬ rd t = 0 → ¬ rd' t = 0) ∧ (∀ i, k ≤ i → i < 4 → ∀ s, s < N → vf_R ob (of (t * 4 + i)) s → ¬ rd' s = 0) ∧ ∀ post : SX → Prop, post (nc, nt, ns, mn, n, na, f, ws, nI w', en, rs, pc, tc, dc, cp, cf, mt, op, tk, tp, fp, sk, oc, of, bt, ba, rd', sl, ac, af, fa, fw, fv, wt, wd, wv', pr, mc) → wX_noteFields_2 post (nI t) (e + 1) (nI k) nc nt ns mn n na f ws (nI w) en rs pc tc dc cp cf mt op tk tp fp sk oc of bt ba rd sl ac af fa fw fv wt wd wv pr mc := by
  intro e
  induction e with
  | zero =>
    intro k h rd w wv wg J
    have : k = 4 := by omega
    subst this
    exact ⟨rd, w, wv, wg, J, fun t ht hr => hr, fun i h1 h2 => absurd h2 (by omega), fun post hp => br_t (by decide) hp⟩
  | succ e ih =>
    intro k h rd w wv wg J
    obtain ⟨rd1, w1, wv1, wg1, J1, m1, s1, p1⟩ := xr_note (nc := nc) (nt := nt) (ns := ns) (mn := mn) (n := n) (na := na) (f := f) (ws := ws) (en := en) (rs := rs) (pc := pc) (tc := tc) (dc := dc) (cp := cp) (cf := cf) (mt := mt) (op := op) (tk := tk) (tp := tp) (fp := fp) (sk := sk) (oc := oc) (bt := bt) (ac := ac) (af := af) (fa := fa) (fw := fw) (fv := fv) (wt := wt) (wd := wd) (pr := pr) (mc := mc) hN (hV k (by omega)) (fun C hc s hs hv => hc.2 t ht (hC C hc) _ (Or.inl ⟨hb, k, by omega, rfl⟩) s hs hv) J
    obtain ⟨rd2, w2, wv2, wg2, J2, m2, s2, p2⟩ := ih (k + 1) (by omega) rd1 w1 wv1 wg1 J1
    refine ⟨rd2, w2, wv2, wg2, J2, fun t ht hr => m2 t ht (m1 t ht hr), fun i h1 h2 s hs hv => ?_, fun post hp => ?_⟩
    · by_cases e : i = k
      · subst e
        exact m2 s hs (s1 s hs hv)
      · exact s2 i (by omega) h2 s hs hv
    · exact br_f (nI_ge (b := 4) (by omega) (by decide)) (And.intro (by rw [xr_i4]; exact vp_in_nI (by omega) (by decide)) (by rw [xr_i4, nI_clamp (by omega)]; exact p1 _ (nm_r (nI_1 k) (p2 post hp))))
theorem xr_sl {root : Int64} {t a : Nat} (hN : N ≤ 200) (hA : A ≤ 201) (ht : t < N) (hb : ob t = false) (ha : a < A) (hba : ba t = nI a) (hV : ∀ k, k < 7 → (∃ s, s < N ∧ vf_R ob (sl (a * 7 + k)) s) ∨ (¬ vb_T (sl (a * 7 + k)) = 3 ∧ ¬ vb_T (sl (a * 7 + k)) = 4)) (hC : ∀ C, rc_C N A ob ba of sl root C → C t) : ∀ e k : Nat, k + e = 7 → ∀ (rd : Nat → Int32) (w : Nat) (wv : Nat → Int64) (wg : Nat → Nat), xr_J N A ob ba of sl root dn rd w wv wg → ∃ rd' w' wv' wg', xr_J N A ob ba of sl root dn rd' w' wv' wg' ∧ (∀ t, t < N → ¬ rd t = 0 → ¬ rd' t = 0) ∧ (∀ i, k ≤ i → i < 7 → ∀ s, s < N → vf_R ob (sl (a * 7 + i)) s → ¬ rd' s = 0) ∧ ∀ post : SX → Prop, post (nc, nt, ns, mn, n, na, f, ws, nI w', en, rs, pc, tc, dc, cp, cf, mt, op, tk, tp, fp, sk, oc, of, bt, ba, rd', sl, ac, af, fa, fw, fv, wt, wd, wv', pr, mc) → wX_noteSlots_2 post (nI a) (e + 1) (nI k) nc nt ns mn n na f ws (nI w) en rs pc tc dc cp cf mt op tk tp fp sk oc of bt ba rd sl ac af fa fw fv wt wd wv pr mc := by
  intro e
  induction e with
  | zero =>
    intro k h rd w wv wg J
    have : k = 7 := by omega
    subst this
    exact ⟨rd, w, wv, wg, J, fun t ht hr => hr, fun i h1 h2 => absurd h2 (by omega), fun post hp => br_t (by decide) hp⟩
  | succ e ih =>
    intro k h rd w wv wg J
    obtain ⟨rd1, w1, wv1, wg1, J1, m1, s1, p1⟩ := xr_note (nc := nc) (nt := nt) (ns := ns) (mn := mn) (n := n) (na := na) (f := f) (ws := ws) (en := en) (rs := rs) (pc := pc) (tc := tc) (dc := dc) (cp := cp) (cf := cf) (mt := mt) (op := op) (tk := tk) (tp := tp) (fp := fp) (sk := sk) (oc := oc) (bt := bt) (ac := ac) (af := af) (fa := fa) (fw := fw) (fv := fv) (wt := wt) (wd := wd) (pr := pr) (mc := mc) hN (hV k (by omega)) (fun C hc s hs hv => hc.2 t ht (hC C hc) _ (Or.inr ⟨hb, a, k, ha, by omega, hba, rfl⟩) s hs hv) J
    obtain ⟨rd2, w2, wv2, wg2, J2, m2, s2, p2⟩ := ih (k + 1) (by omega) rd1 w1 wv1 wg1 J1
    refine ⟨rd2, w2, wv2, wg2, J2, fun t ht hr => m2 t ht (m1 t ht hr), fun i h1 h2 s hs hv => ?_, fun post hp => ?_⟩
    · by_cases e : i = k
      · subst e
        exact m2 s hs (s1 s hs hv)
      · exact s2 i (by omega) h2 s hs hv
    · exact br_f (nI_ge (b := 7) (by omega) (by decide)) (And.intro (by rw [xr_i7]; exact vp_in_nI (by omega) (by decide)) (by rw [xr_i7, nI_clamp (by omega)]; exact p1 _ (nm_r (nI_1 k) (p2 post hp))))
end
end
section
def xr_o (ob : Nat → Bool) (p : Nat → Int32) : Nat → Int32 := fun t => if ob t = true then p t else 0
theorem xr_ot {ob : Nat → Bool} {p : Nat → Int32} {t : Nat} (h : ob t = true) : xr_o ob p t = p t := if_pos h
theorem xr_of {ob : Nat → Bool} {p : Nat → Int32} {t : Nat} (h : ob t = false) : xr_o ob p t = 0 := if_neg (by rw [h]; exact Bool.noConfusion)
theorem xr_oc {ob : Nat → Bool} {p q : Nat → Int32} {N : Nat} (h : ∀ t, t < N → (p t = 0 ↔ q t = 0)) : cn_z (xr_o ob p) N = cn_z (xr_o ob q) N := by
  refine cn_cg (fun t ht => ?_)
  cases z : ob t with
  | true => rw [xr_ot z, xr_ot z]; exact h t ht
  | false => rw [xr_of z, xr_of z]
theorem xr_ou1 {ob : Nat → Bool} {p : Nat → Int32} {N t : Nat} (hb : ob t = true) (h : p t = 0) (ht : t < N) : cn_z (xr_o ob (upd p t 1)) N = cn_z (xr_o ob p) N + 1 := by
  rw [← cn_up (p := xr_o ob p) (by rw [xr_ot hb]; exact h) ht]
  refine cn_cg (fun s hs => ?_)
  by_cases e : s = t
  · subst e
    rw [xr_ot hb, pk_us, pk_us]
  · rw [pk_un e]
    cases z : ob s with
    | true => rw [xr_ot z, xr_ot z, pk_un e]
    | false => rw [xr_of z, xr_of z]
theorem xr_ou0 {ob : Nat → Bool} {p : Nat → Int32} {N t : Nat} (hb : ob t = false) : cn_z (xr_o ob (upd p t 1)) N = cn_z (xr_o ob p) N := by
  refine cn_cg (fun s hs => ?_)
  by_cases e : s = t
  · subst e
    rw [xr_of hb, xr_of hb]
  · cases z : ob s with
    | true => rw [xr_ot z, xr_ot z, pk_un e]
    | false => rw [xr_of z, xr_of z]
/-- a value of X's heap -/
def xr_k (N : Nat) (ob : Nat → Bool) (x : Int64) : Prop := (∃ s, s < N ∧ vf_R ob x s) ∨ (¬ vb_T x = 3 ∧ ¬ vb_T x = 4)
theorem xr_kb {N : Nat} {ob : Nat → Bool} {x y : Int64} (r : vb_R ob N x y) : xr_k N ob x := by
  rcases r with ⟨rfl, _⟩ | ⟨i, rfl, _⟩ | ⟨t, a, b, rfl, _⟩ | ⟨t, a, b, rfl, _⟩
  · exact Or.inr ⟨by rw [vC_1]; decide, by rw [vC_1]; decide⟩
  · exact Or.inr ⟨by rw [vC_2]; decide, by rw [vC_2]; decide⟩
  · exact Or.inl ⟨t, a, Or.inl ⟨b, rfl⟩⟩
  · exact Or.inl ⟨t, a, Or.inr ⟨b, rfl⟩⟩
theorem qx_nume (post : Int32 → Prop) {x : Int64} {s i : Int32} (e : x = vb_pk s i) (h : post i) : wpX_numberOf post x := by
  rw [e]
  exact qx_num _ h
theorem xr_pop {N A w : Nat} {ob : Nat → Bool} {ba : Nat → Int32} {of sl : Nat → Int64} {rs : Int64} {dn rd : Nat → Int32} {wv : Nat → Int64} {wg : Nat → Nat} (J : xr_J N A ob ba of sl rs dn rd (w + 1) wv wg) : xr_J N A ob ba of sl rs (upd dn (wg w) 1) rd w wv wg := by
  obtain ⟨J1, J2, J3, J4, J5, J6⟩ := J
  obtain ⟨a1, a2, a3, a4⟩ := J2 w (by omega)
  refine ⟨J1, fun j hj => ?_, fun j i hj hi => J3 j i (by omega) (by omega), fun t ht hr hd => ?_, fun t ht hr => ?_, ?_⟩
  · obtain ⟨b1, b2, b3, b4⟩ := J2 j (by omega)
    refine ⟨b1, b2, b3, ?_⟩
    rw [pk_un (fun e => by have := J3 j w (by omega) (by omega) e; omega)]
    exact b4
  · have ne : t ≠ wg w := fun e => by
      rw [e, pk_us] at hd
      exact absurd hd (by decide)
    rw [pk_un ne] at hd
    obtain ⟨j, hj, e⟩ := J4 t ht hr hd
    have : j ≠ w := fun z => ne (by rw [← e, z])
    exact ⟨j, by omega, e⟩
  · rw [pk_un (fun e => a3 (by rw [← e]; exact hr))]
    exact J5 t ht hr
  · rw [cn_up a4 a1]
    omega
section
variable {nc nt ns mn n na f ws vs en pc tc dc : Int32} {rs : Int64} {cp cf mt op tk tp fp sk oc bt ba rd ac af fa fw fv wt wd pr mc : Nat → Int32} {of sl wv : Nat → Int64}
variable {N A : Nat} {ob : Nat → Bool}
theorem xr_main {root : Int64} (hN : N ≤ 200) (hA : A ≤ 201) (hVo : ∀ t, t < N → ob t = true → ∀ k, k < 4 → xr_k N ob (of (t * 4 + k))) (hVb : ∀ t, t < N → ob t = false → ∃ a, a < A ∧ ba t = nI a) (hVs : ∀ a, a < A → ∀ k, k < 7 → xr_k N ob (sl (a * 7 + k))) : ∀ e i : Nat, i + e = 200 → ∀ (dn rd : Nat → Int32) (w : Nat) (wv : Nat → Int64) (wg : Nat → Nat), xr_J N A ob ba of sl root dn rd w wv wg → (∀ t, t < N → ¬ dn t = 0 → ∀ x, vf_V A ob ba of sl t x → ∀ s, s < N → vf_R ob x s → ¬ rd s = 0) → cn_z dn N = i → ∃ rd' wv', (∀ C, rc_C N A ob ba of sl root C → ∀ t, t < N → ¬ rd' t = 0 → C t) ∧ (∀ t, t < N → ¬ rd' t = 0 → ∀ x, vf_V A ob ba of sl t x → ∀ s, s < N → vf_R ob x s → ¬ rd' s = 0) ∧ (∀ t, t < N → ¬ rd t = 0 → ¬ rd' t = 0) ∧ ∀ post : Int32 → SX → Prop, post (nI (cn_z (xr_o ob rd') N)) (nc, nt, ns, mn, n, na, f, ws, nI 0, en, rs, pc, tc, dc, cp, cf, mt, op, tk, tp, fp, sk, oc, of, bt, ba, rd', sl, ac, af, fa, fw, fv, wt, wd, wv', pr, mc) → wX_countReached_34 post (e + 1) (nI (cn_z (xr_o ob dn) N)) (nI i) nc nt ns mn n na f ws (nI w) en rs pc tc dc cp cf mt op tk tp fp sk oc of bt ba rd sl ac af fa fw fv wt wd wv pr mc := by
  intro e
  induction e with
  | zero =>
    intro i h dn rd w wv wg J Hc hi
    have i200 : i = 200 := by omega
    have w0 : w = 0 := by
      have a := cn_le rd N
      have b := J.2.2.2.2.2
      omega
    clear hi
    subst i200
    subst w0
    have eq : ∀ t, t < N → (rd t = 0 ↔ dn t = 0) := fun t ht => ⟨J.2.2.2.2.1 t ht, fun z => Classical.byContradiction fun y => by
      obtain ⟨j, hj, _⟩ := J.2.2.2.1 t ht y z
      omega⟩
    refine ⟨rd, wv, J.1, fun t ht hr => Hc t ht (fun z => hr ((eq t ht).mpr z)), fun t ht hr => hr, fun post hp => br_t (by decide) ?_⟩
    rw [xr_oc eq] at hp
    exact hp
  | succ e ih =>
    intro i h dn rd w wv wg J Hc hi
    cases w with
    | zero =>
      have eq : ∀ t, t < N → (rd t = 0 ↔ dn t = 0) := fun t ht => ⟨J.2.2.2.2.1 t ht, fun z => Classical.byContradiction fun y => by
        obtain ⟨j, hj, _⟩ := J.2.2.2.1 t ht y z
        omega⟩
      refine ⟨rd, wv, J.1, fun t ht hr => Hc t ht (fun z => hr ((eq t ht).mpr z)), fun t ht hr => hr, fun post hp => br_f (nI_ge (b := 200) (by omega) (by decide)) (br_t (by decide) ?_)⟩
      rw [xr_oc eq] at hp
      exact hp
    | succ w =>
      have wl : w < 2100 := by
        have a := cn_le rd N
        have b := J.2.2.2.2.2
        omega
      obtain ⟨a1, a2, a3, a4⟩ := J.2.1 w (by omega)
      have Jp := xr_pop J
      have cd : cn_z (upd dn (wg w) 1) N = i + 1 := by rw [cn_up a4 a1, hi]
      cases hb : ob (wg w) with
      | true =>
        obtain ⟨rd1, w1, wv1, wg1, J1, m1, s1, p1⟩ := xr_fl (nc := nc) (nt := nt) (ns := ns) (mn := mn) (n := n) (na := na) (f := f) (ws := ws) (en := en) (rs := rs) (pc := pc) (tc := tc) (dc := dc) (cp := cp) (cf := cf) (mt := mt) (op := op) (tk := tk) (tp := tp) (fp := fp) (sk := sk) (oc := oc) (bt := bt) (ac := ac) (af := af) (fa := fa) (fw := fw) (fv := fv) (wt := wt) (wd := wd) (pr := pr) (mc := mc) (t := wg w) hN a1 hb (hVo _ a1 hb) (fun C hC => J.1 C hC _ a1 a3) 4 0 rfl rd w wv wg Jp
        obtain ⟨rd2, wv2, F1, F2, F3, p2⟩ := ih (i + 1) (by omega) (upd dn (wg w) 1) rd1 w1 wv1 wg1 J1 (fun t ht hd x hx s hs hv => by
          by_cases e : t = wg w
          · subst e
            rcases hx with ⟨_, k, hk, rfl⟩ | ⟨hz, _⟩
            · exact s1 k (by omega) hk s hs hv
            · rw [hb] at hz; exact Bool.noConfusion hz
          · rw [pk_un e] at hd
            exact m1 s hs (Hc t ht hd x hx s hs hv)) cd
        rw [xr_ou1 hb a4 a1] at p2
        have ev : wv w = vb_pk 4 (nI (wg w)) := by rw [a2]; exact if_pos hb
        refine ⟨rd2, wv2, F1, F2, fun t ht hr => F3 t ht (m1 t ht hr), fun post hp => br_f (nI_ge (b := 200) (by omega) (by decide)) (br_f (nI_nle (by omega) (by omega)) (ax_pop _ wl ?_))⟩
        exact qx_nume _ ev (qx_sort (s := 4) _ (by rw [ev]; exact vC_4 _) (br_t rfl (nm_r (nI_1 _) (Exists.intro 5 (p1 _ (nm_r (nI_1 i) (p2 post hp)))))))
      | false =>
        obtain ⟨a, ha, ea⟩ := hVb _ a1 hb
        obtain ⟨rd1, w1, wv1, wg1, J1, m1, s1, p1⟩ := xr_sl (nc := nc) (nt := nt) (ns := ns) (mn := mn) (n := n) (na := na) (f := f) (ws := ws) (en := en) (rs := rs) (pc := pc) (tc := tc) (dc := dc) (cp := cp) (cf := cf) (mt := mt) (op := op) (tk := tk) (tp := tp) (fp := fp) (sk := sk) (oc := oc) (bt := bt) (ac := ac) (af := af) (fa := fa) (fw := fw) (fv := fv) (wt := wt) (wd := wd) (pr := pr) (mc := mc) (t := wg w) hN hA a1 hb ha ea (hVs _ ha) (fun C hC => J.1 C hC _ a1 a3) 7 0 rfl rd w wv wg Jp
        obtain ⟨rd2, wv2, F1, F2, F3, p2⟩ := ih (i + 1) (by omega) (upd dn (wg w) 1) rd1 w1 wv1 wg1 J1 (fun t ht hd x hx s hs hv => by
          by_cases e : t = wg w
          · subst e
            rcases hx with ⟨hz, _⟩ | ⟨_, a', k, ha', hk, ea', rfl⟩
            · rw [hb] at hz; exact Bool.noConfusion hz
            · have : a' = a := by
                rw [ea] at ea'
                exact ((nI_eq (by omega) (by omega)).mp ea').symm
              subst this
              exact s1 k (by omega) hk s hs hv
          · rw [pk_un e] at hd
            exact m1 s hs (Hc t ht hd x hx s hs hv)) cd
        rw [xr_ou0 hb] at p2
        have ev : wv w = vb_pk 3 (nI (wg w)) := by
          rw [a2]
          exact if_neg (by rw [hb]; exact Bool.noConfusion)
        refine ⟨rd2, wv2, F1, F2, fun t ht hr => F3 t ht (m1 t ht hr), fun post hp => br_f (nI_ge (b := 200) (by omega) (by decide)) (br_f (nI_nle (by omega) (by omega)) (ax_pop _ wl ?_))⟩
        exact qx_nume _ ev (qx_sort (s := 3) _ (by rw [ev]; exact vC_3 _) (br_f (by decide) (And.intro (vp_in_nI (by omega) (by decide)) (by
          rw [nI_clamp (by omega), ea]
          exact Exists.intro 8 (p1 _ (nm_r (nI_1 i) (p2 post hp)))))))
theorem xr_cl (post : Int32 → SX → Prop) (hp : wpX_noteReached (fun u => match u with | (nc, nt, ns, mn, n, na, f, ws, vs, en, rs, pc, tc, dc, cp, cf, mt, op, tk, tp, fp, sk, oc, of, bt, ba, rd, sl, ac, af, fa, fw, fv, wt, wd, wv, pr, mc) => ∃ m, wX_countReached_34 post m 0 0 nc nt ns mn n na f ws vs en rs pc tc dc cp cf mt op tk tp fp sk oc of bt ba rd sl ac af fa fw fv wt wd wv pr mc) (nc, nt, ns, mn, n, na, f, ws, vs, en, rs, pc, tc, dc, cp, cf, mt, op, tk, tp, fp, sk, oc, of, bt, ba, um_n rd 200, sl, ac, af, fa, fw, fv, wt, wd, wv, pr, mc) rs) : ∀ e k : Nat, k + e = 200 → wX_countReached_4 post 0 nc nt ns mn n na f ws vs en rs pc tc dc (e + 1) (nI k) cp cf mt op tk tp fp sk oc of bt ba (um_n rd k) sl ac af fa fw fv wt wd wv pr mc := by
  intro e
  induction e with
  | zero =>
    intro k h
    have : k = 200 := by omega
    subst this
    exact br_t (by decide) hp
  | succ e ih =>
    intro k h
    exact br_f (nI_ge (b := 200) (by omega) (by decide)) (And.intro (vp_in_nI (by omega) (by decide)) (nm_r (e' := um_n rd (k + 1)) (by rw [nI_clamp (by omega), ay_n0]; rfl) (nm_r (nI_1 k) (ih (k + 1) (by omega)))))
theorem xr_go (hN : N ≤ 200) (hA : A ≤ 201) (hr : xr_k N ob rs) (hVo : ∀ t, t < N → ob t = true → ∀ k, k < 4 → xr_k N ob (of (t * 4 + k))) (hVb : ∀ t, t < N → ob t = false → ∃ a, a < A ∧ ba t = nI a) (hVs : ∀ a, a < A → ∀ k, k < 7 → xr_k N ob (sl (a * 7 + k))) : ∃ rd' wv', (∀ C, rc_C N A ob ba of sl rs C → ∀ t, t < N → ¬ rd' t = 0 → C t) ∧ rc_C N A ob ba of sl rs (fun t => ¬ rd' t = 0) ∧ ∀ post : Int32 → SX → Prop, post (nI (cn_z (xr_o ob rd') N)) (nc, nt, ns, mn, n, na, f, ws, nI 0, en, rs, pc, tc, dc, cp, cf, mt, op, tk, tp, fp, sk, oc, of, bt, ba, rd', sl, ac, af, fa, fw, fv, wt, wd, wv', pr, mc) → wpX_countReached post (nc, nt, ns, mn, n, na, f, ws, nI 0, en, rs, pc, tc, dc, cp, cf, mt, op, tk, tp, fp, sk, oc, of, bt, ba, rd, sl, ac, af, fa, fw, fv, wt, wd, wv, pr, mc) := by
  have z : ∀ t, t < N → um_n rd 200 t = 0 := fun t ht => um_in (by omega)
  have c0 : cn_z (um_n rd 200) N = 0 := by
    rw [cn_cg (q := fun _ => 0) (fun t ht => ⟨fun _ => rfl, fun _ => z t ht⟩), cn_0]
  have J0 : xr_J N A ob ba of sl rs (fun _ => 0) (um_n rd 200) 0 wv (fun _ => 0) := ⟨fun C hC t ht hr => absurd (z t ht) hr, fun j hj => absurd hj (Nat.not_lt_zero _), fun j i hj => absurd hj (Nat.not_lt_zero _), fun t ht hr => absurd (z t ht) hr, fun _ _ _ => rfl, by rw [c0, cn_0]⟩
  obtain ⟨rd1, w1, wv1, wg1, J1, m1, s1, p1⟩ := xr_note (nc := nc) (nt := nt) (ns := ns) (mn := mn) (n := n) (na := na) (f := f) (ws := ws) (en := en) (rs := rs) (pc := pc) (tc := tc) (dc := dc) (cp := cp) (cf := cf) (mt := mt) (op := op) (tk := tk) (tp := tp) (fp := fp) (sk := sk) (oc := oc) (bt := bt) (ac := ac) (af := af) (fa := fa) (fw := fw) (fv := fv) (wt := wt) (wd := wd) (pr := pr) (mc := mc) (root := rs) (x := rs) hN hr (fun C hC s hs hv => hC.1 s hs hv) J0
  obtain ⟨rd2, wv2, F1, F2, F3, p2⟩ := xr_main (nc := nc) (nt := nt) (ns := ns) (mn := mn) (n := n) (na := na) (f := f) (ws := ws) (en := en) (rs := rs) (pc := pc) (tc := tc) (dc := dc) (cp := cp) (cf := cf) (mt := mt) (op := op) (tk := tk) (tp := tp) (fp := fp) (sk := sk) (oc := oc) (bt := bt) (ac := ac) (af := af) (fa := fa) (fw := fw) (fv := fv) (wt := wt) (wd := wd) (pr := pr) (mc := mc) hN hA hVo hVb hVs 200 0 rfl (fun _ => 0) rd1 w1 wv1 wg1 J1 (fun t ht hd => absurd rfl hd) (cn_0 N)
  have e0 : cn_z (xr_o ob (fun _ => 0)) N = 0 := by
    rw [cn_cg (q := fun _ => 0) (fun t ht => ⟨fun _ => rfl, fun _ => by unfold xr_o; split <;> rfl⟩), cn_0]
  rw [e0] at p2
  exact ⟨rd2, wv2, F1, ⟨fun s hs hv => F3 s hs (s1 s hs hv), fun t ht hr x hx s hs hv => F2 t ht hr x hx s hs hv⟩, fun post hp => Exists.intro 201 (xr_cl (vs := nI 0) post (p1 _ (Exists.intro 201 (p2 post hp))) 200 0 rfl)⟩
end
end
section
/-! Y's marks -/
def ym_M (ob : Nat → Bool) (mo mb : Nat → Int32) : Nat → Int32 := fun t => if ob t = true then mo (cu_g ob t) else mb (cu_g ob t)
theorem ym_t {ob : Nat → Bool} {mo mb : Nat → Int32} {t : Nat} (h : ob t = true) : ym_M ob mo mb t = mo (cu_g ob t) := if_pos h
theorem ym_f {ob : Nat → Bool} {mo mb : Nat → Int32} {t : Nat} (h : ob t = false) : ym_M ob mo mb t = mb (cu_g ob t) := if_neg (by rw [h]; exact Bool.noConfusion)
theorem ym_u1 {ob : Nat → Bool} {mo mb : Nat → Int32} {s : Nat} (hb : ob s = true) : ym_M ob (upd mo (cu_g ob s) 1) mb = upd (ym_M ob mo mb) s 1 := by
  funext t
  by_cases e : t = s
  · subst e
    rw [ym_t hb, pk_us, pk_us]
  · rw [pk_un e]
    cases z : ob t with
    | true => rw [ym_t z, ym_t z, pk_un (fun y => e (cu_inj (z.trans hb.symm) y))]
    | false => rw [ym_f z, ym_f z]
theorem ym_u0 {ob : Nat → Bool} {mo mb : Nat → Int32} {s : Nat} (hb : ob s = false) : ym_M ob mo (upd mb (cu_g ob s) 1) = upd (ym_M ob mo mb) s 1 := by
  funext t
  by_cases e : t = s
  · subst e
    rw [ym_f hb, pk_us, pk_us]
  · rw [pk_un e]
    cases z : ob t with
    | true => rw [ym_t z, ym_t z]
    | false => rw [ym_f z, ym_f z, pk_un (fun y => e (cu_inj (z.trans hb.symm) y))]
theorem ym_cn {ob : Nat → Bool} {mo mb : Nat → Int32} : ∀ N, cn_z (xr_o ob (ym_M ob mo mb)) N = cn_z mo (cu_O ob N)
  | 0 => rfl
  | N + 1 => by
    show cn_z (xr_o ob (ym_M ob mo mb)) N + (if xr_o ob (ym_M ob mo mb) N = 0 then 0 else 1) = cn_z mo (cu_O ob (N + 1))
    rw [ym_cn N]
    cases z : ob N with
    | true =>
      rw [cu_st z, xr_ot z, ym_t z, show cu_g ob N = cu_O ob N from if_pos z]
      rfl
    | false => rw [cu_sf z, xr_of z, if_pos rfl, Nat.add_zero]
def ym_I (N A : Nat) (ob : Nat → Bool) (ba : Nat → Int32) (of sl : Nat → Int64) (root : Int64) (mo mb : Nat → Int32) : Prop := ∀ C, rc_C N A ob ba of sl root C → ∀ t, t < N → ¬ ym_M ob mo mb t = 0 → C t
theorem ym_mark {N A s : Nat} {ob : Nat → Bool} {ba : Nat → Int32} {of sl : Nat → Int64} {root x : Int64} {M M' : Nat → Int32} (hN : N ≤ 200) (hs : s < N) (hv : vf_R ob x s) (hm : ∀ C, rc_C N A ob ba of sl root C → ∀ s, s < N → vf_R ob x s → C s) (I : ∀ C, rc_C N A ob ba of sl root C → ∀ t, t < N → ¬ M t = 0 → C t) (z : M s = 0) (e : M' = upd M s 1) : (∀ C, rc_C N A ob ba of sl root C → ∀ t, t < N → ¬ M' t = 0 → C t) ∧ (∀ t, t < N → ¬ M t = 0 → ¬ M' t = 0) ∧ (∀ s, s < N → vf_R ob x s → ¬ M' s = 0) ∧ cn_z M' N = cn_z M N + 1 := by
  subst e
  refine ⟨fun C hC t ht hr => ?_, fun t ht hr => ?_, fun s' hs' hv' => ?_, cn_up z hs⟩
  · by_cases e : t = s
    · subst e; exact hm C hC t hs hv
    · rw [pk_un e] at hr; exact I C hC t ht hr
  · by_cases e : t = s
    · subst e; rw [pk_us]; decide
    · rw [pk_un e]; exact hr
  · rw [vf_one (by omega) (by omega) hv hv', pk_us]; decide
section
variable {yc yt ys ym no nb ya yw yv yu yo yk yp ye : Int32} {ycp ycf ymt kd ytk ytp ysk yoc ybt ybp ow ed wa yh ypr mo mb : Nat → Int32} {yof sv vr vl : Nat → Int64}
variable {N A : Nat} {ob : Nat → Bool} {ba : Nat → Int32} {of sl : Nat → Int64} {root : Int64}
theorem ym_33n (post : Int32 → SY → Prop) {x : Int64} {g : Int32} (h : ¬ vb_T x = 3) (hp : post 0 (yc, yt, ys, ym, no, nb, ya, yw, yv, yu, yo, yk, yp, ye, ycp, ycf, ymt, kd, ytk, ytp, ysk, yoc, yof, ybt, ybp, sv, vr, ow, ed, wa, yh, vl, ypr, mo, mb)) : wY_meet_33 post x g yc yt ys ym no nb ya yw yv yu yo yk yp ye ycp ycf ymt kd ytk ytp ysk yoc yof ybt ybp sv vr ow ed wa yh vl ypr mo mb := by
  unfold wY_meet_33
  exact ay_type _ rfl (br_f h hp)
theorem ym_33t (post : Int32 → SY → Prop) {x : Int64} {g : Int32} (h : vb_T x = 3) (hp : vp_in g 201 ∧ ((mb g.toNatClampNeg = 0 → vp_in g 201 ∧ ∀ y, y = upd mb g.toNatClampNeg (vp_nar .boolean 1) → post 1 (yc, yt, ys, ym, no, nb, ya, yw, yv, yu, yo, yk, yp, ye, ycp, ycf, ymt, kd, ytk, ytp, ysk, yoc, yof, ybt, ybp, sv, vr, ow, ed, wa, yh, vl, ypr, mo, y)) ∧ (¬ mb g.toNatClampNeg = 0 → post 0 (yc, yt, ys, ym, no, nb, ya, yw, yv, yu, yo, yk, yp, ye, ycp, ycf, ymt, kd, ytk, ytp, ysk, yoc, yof, ybt, ybp, sv, vr, ow, ed, wa, yh, vl, ypr, mo, mb)))) : wY_meet_33 post x g yc yt ys ym no nb ya yw yv yu yo yk yp ye ycp ycf ymt kd ytk ytp ysk yoc yof ybt ybp sv vr ow ed wa yh vl ypr mo mb := by
  unfold wY_meet_33
  exact ay_type _ h (br_t rfl hp)
theorem ym_meet {x y : Int64} (hN : N ≤ 200) (r : vb_R ob N x y) (hm : ∀ C, rc_C N A ob ba of sl root C → ∀ s, s < N → vf_R ob x s → C s) (I : ym_I N A ob ba of sl root mo mb) : ∃ mo' mb' q, ym_I N A ob ba of sl root mo' mb' ∧ (∀ t, t < N → ¬ ym_M ob mo mb t = 0 → ¬ ym_M ob mo' mb' t = 0) ∧ (∀ s, s < N → vf_R ob x s → ¬ ym_M ob mo' mb' s = 0) ∧ ((q = 0 ∧ mo' = mo ∧ mb' = mb) ∨ (q = 1 ∧ cn_z (ym_M ob mo' mb') N = cn_z (ym_M ob mo mb) N + 1)) ∧ ∀ post : Int32 → SY → Prop, post q (yc, yt, ys, ym, no, nb, ya, yw, yv, yu, yo, yk, yp, ye, ycp, ycf, ymt, kd, ytk, ytp, ysk, yoc, yof, ybt, ybp, sv, vr, ow, ed, wa, yh, vl, ypr, mo', mb') → wpY_meet post (yc, yt, ys, ym, no, nb, ya, yw, yv, yu, yo, yk, yp, ye, ycp, ycf, ymt, kd, ytk, ytp, ysk, yoc, yof, ybt, ybp, sv, vr, ow, ed, wa, yh, vl, ypr, mo, mb) y := by
  have l := cu_le ob N
  rcases r with ⟨rfl, rfl⟩ | ⟨i, rfl, rfl⟩ | ⟨t, a, b, rfl, rfl⟩ | ⟨t, a, b, rfl, rfl⟩
  · exact ⟨mo, mb, 0, I, fun t ht h => h, fun s hs hv => absurd hv (vf_no (by rw [vC_1]; decide) (by rw [vC_1]; decide)), Or.inl ⟨rfl, rfl, rfl⟩, fun post hp => by
      unfold wpY_meet
      exact ay_num _ (ay_type _ (vC_1 _) (br_f (by decide) (ym_33n post (by rw [vC_1]; decide) hp)))⟩
  · exact ⟨mo, mb, 0, I, fun t ht h => h, fun s hs hv => absurd hv (vf_no (by rw [vC_2]; decide) (by rw [vC_2]; decide)), Or.inl ⟨rfl, rfl, rfl⟩, fun post hp => by
      unfold wpY_meet
      exact ay_num _ (ay_type _ (vC_2 _) (br_f (by decide) (ym_33n post (by rw [vC_2]; decide) hp)))⟩
  · have g := cu_gf b a
    have hv : vf_R ob (vb_pk 3 (nI t)) t := Or.inl ⟨b, rfl⟩
    by_cases z : mb (cu_g ob t) = 0
    · obtain ⟨k1, k2, k3, k4⟩ := ym_mark (M := ym_M ob mo mb) (M' := ym_M ob mo (upd mb (cu_g ob t) 1)) hN a hv hm I (by rw [ym_f b]; exact z) (ym_u0 b)
      exact ⟨mo, upd mb (cu_g ob t) 1, 1, k1, k2, k3, Or.inr ⟨rfl, k4⟩, fun post hp => by
      unfold wpY_meet
      exact ay_num _ (ay_type _ (vC_3 _) (br_f (by decide) (ym_33t post (vC_3 _) ( (And.intro (vp_in_nI (by omega) (by decide)) (br_t (by rw [nI_clamp (by omega)]; exact z) (And.intro (vp_in_nI (by omega) (by decide)) (nm_r (e' := upd mb (cu_g ob t) 1) (by rw [nI_clamp (by omega), ay_n1]) hp))))))))⟩
    · exact ⟨mo, mb, 0, I, fun t ht h => h, fun s hs hv' => by rw [vf_one (by omega) (by omega) hv hv', ym_f b]; exact z, Or.inl ⟨rfl, rfl, rfl⟩, fun post hp => by
      unfold wpY_meet
      exact ay_num _ (ay_type _ (vC_3 _) (br_f (by decide) (ym_33t post (vC_3 _) ( (And.intro (vp_in_nI (by omega) (by decide)) (br_f (by rw [nI_clamp (by omega)]; exact z) hp))))))⟩
  · have g := cu_gt b a
    have hv : vf_R ob (vb_pk 4 (nI t)) t := Or.inr ⟨b, rfl⟩
    by_cases z : mo (cu_g ob t) = 0
    · obtain ⟨k1, k2, k3, k4⟩ := ym_mark (M := ym_M ob mo mb) (M' := ym_M ob (upd mo (cu_g ob t) 1) mb) hN a hv hm I (by rw [ym_t b]; exact z) (ym_u1 b)
      exact ⟨upd mo (cu_g ob t) 1, mb, 1, k1, k2, k3, Or.inr ⟨rfl, k4⟩, fun post hp => by
      unfold wpY_meet
      exact ay_num _ (ay_type _ (vC_4 _) (br_t rfl (And.intro (vp_in_nI (by omega) (by decide)) (br_t (by rw [nI_clamp (by omega)]; exact z) (And.intro (vp_in_nI (by omega) (by decide)) (nm_r (e' := upd mo (cu_g ob t) 1) (by rw [nI_clamp (by omega), ay_n1]) hp))))))⟩
    · exact ⟨mo, mb, 0, I, fun t ht h => h, fun s hs hv' => by rw [vf_one (by omega) (by omega) hv hv', ym_t b]; exact z, Or.inl ⟨rfl, rfl, rfl⟩, fun post hp => by
      unfold wpY_meet
      exact ay_num _ (ay_type _ (vC_4 _) (br_t rfl (And.intro (vp_in_nI (by omega) (by decide)) (br_f (by rw [nI_clamp (by omega)]; exact z) (ym_33n post (by rw [vC_4]; decide) hp)))))⟩
theorem ym_38 {x1 : Int32} {i : Nat} {post : Int32 → SY → Prop} {J : Int32 → Int32 → Int32 → Int32 → Int32 → Int32 → Int32 → Int32 → Int32 → Int32 → Int32 → Int32 → Int32 → Int32 → Int32 → Int32 → (Nat → Int32) → (Nat → Int32) → (Nat → Int32) → (Nat → Int32) → (Nat → Int32) → (Nat → Int32) → (Nat → Int32) → (Nat → Int32) → (Nat → Int64) → (Nat → Int32) → (Nat → Int32) → (Nat → Int64) → (Nat → Int64) → (Nat → Int32) → (Nat → Int32) → (Nat → Int32) → (Nat → Int32) → (Nat → Int64) → (Nat → Int32) → (Nat → Int32) → (Nat → Int32) → Prop} (h : x1 = 0 ∨ x1 = 1) (hp : J x1 (nI (i + 1)) yc yt ys ym no nb ya yw yv yu yo yk yp ye ycp ycf ymt kd ytk ytp ysk yoc yof ybt ybp sv vr ow ed wa yh vl ypr mo mb) : wY_meetMore_38 post J x1 (nI i) yc yt ys ym no nb ya yw yv yu yo yk yp ye ycp ycf ymt kd ytk ytp ysk yoc yof ybt ybp sv vr ow ed wa yh vl ypr mo mb := by
  rcases h with rfl | rfl
  · exact br_t rfl (nm_r (nI_1 i) hp)
  · exact br_f (by decide) (nm_r (nI_1 i) hp)
theorem ym_132 {x1 : Int32} {i : Nat} {post : Int32 → SY → Prop} {J : Int32 → Int32 → Int32 → Int32 → Int32 → Int32 → Int32 → Int32 → Int32 → Int32 → Int32 → Int32 → Int32 → Int32 → Int32 → Int32 → (Nat → Int32) → (Nat → Int32) → (Nat → Int32) → (Nat → Int32) → (Nat → Int32) → (Nat → Int32) → (Nat → Int32) → (Nat → Int32) → (Nat → Int64) → (Nat → Int32) → (Nat → Int32) → (Nat → Int64) → (Nat → Int64) → (Nat → Int32) → (Nat → Int32) → (Nat → Int32) → (Nat → Int32) → (Nat → Int64) → (Nat → Int32) → (Nat → Int32) → (Nat → Int32) → Prop} (h : x1 = 0 ∨ x1 = 1) (hp : J x1 (nI (i + 1)) yc yt ys ym no nb ya yw yv yu yo yk yp ye ycp ycf ymt kd ytk ytp ysk yoc yof ybt ybp sv vr ow ed wa yh vl ypr mo mb) : wY_meetMore_132 post J x1 (nI i) yc yt ys ym no nb ya yw yv yu yo yk yp ye ycp ycf ymt kd ytk ytp ysk yoc yof ybt ybp sv vr ow ed wa yh vl ypr mo mb := by
  rcases h with rfl | rfl
  · exact br_t rfl (nm_r (nI_1 i) hp)
  · exact br_f (by decide) (nm_r (nI_1 i) hp)
theorem ym_p1 {O B : Nat} (hN : N ≤ 200) (hO : O = cu_O ob N) (hV : ∀ t, t < N → ob t = true → ∀ k, k < 4 → vb_R ob N (of (t * 4 + k)) (yof (4 * cu_g ob t + k))) : ∀ e i : Nat, i + e = 4 * O → ∀ (mo mb : Nat → Int32) (x1 : Int32), (x1 = 0 ∨ x1 = 1) → ym_I N A ob ba of sl root mo mb → ∃ mo' mb' y1, (y1 = 0 ∨ y1 = 1) ∧ ym_I N A ob ba of sl root mo' mb' ∧ (∀ t, t < N → ¬ ym_M ob mo mb t = 0 → ¬ ym_M ob mo' mb' t = 0) ∧ cn_z (ym_M ob mo mb) N ≤ cn_z (ym_M ob mo' mb') N ∧ (y1 = 0 → x1 = 0 ∧ mo' = mo ∧ mb' = mb ∧ ∀ t, t < N → ob t = true → ∀ k, k < 4 → i ≤ 4 * cu_g ob t + k → ¬ ym_M ob mo mb t = 0 → ∀ s, s < N → vf_R ob (of (t * 4 + k)) s → ¬ ym_M ob mo mb s = 0) ∧ (y1 = 1 → x1 = 1 ∨ cn_z (ym_M ob mo mb) N < cn_z (ym_M ob mo' mb') N) ∧ ∀ post : Int32 → SY → Prop, (∃ m, wY_meetMore_56 post m y1 0 yc yt ys ym (nI O) (nI B) ya yw yv yu yo yk yp ye ycp ycf ymt kd ytk ytp ysk yoc yof ybt ybp sv vr ow ed wa yh vl ypr mo' mb') → wY_meetMore_4 post (e + 1) x1 (nI i) yc yt ys ym (nI O) (nI B) ya yw yv yu yo yk yp ye ycp ycf ymt kd ytk ytp ysk yoc yof ybt ybp sv vr ow ed wa yh vl ypr mo mb := by
  have l := cu_le ob N
  have e4 : (4 : Int32) * nI O = nI (4 * O) := pk_mul 4 O
  intro e
  induction e with
  | zero =>
    intro i h mo mb x1 hx I
    refine ⟨mo, mb, x1, hx, I, fun t ht h => h, Nat.le_refl _, fun z => ⟨z, rfl, rfl, fun t ht hb k hk hi => ?_⟩, fun z => Or.inl z, fun post hp => br_t (by rw [e4]; exact nI_le (by omega) (by omega)) hp⟩
    have := cu_gt hb ht
    omega
  | succ e ih =>
    intro i h mo mb x1 hx I
    obtain ⟨t, ht, hb, hg⟩ := cu_st1 (ob := ob) (N := N) (o := i / 4) (by omega)
    have eD : nI i / 4 = nI (i / 4) := pk_div (d := 4) (by omega) (by omega) (by omega)
    have U : ∀ t', t' < N → ob t' = true → ∀ k, k < 4 → i ≤ 4 * cu_g ob t' + k → (t' = t ∧ k = i % 4) ∨ i + 1 ≤ 4 * cu_g ob t' + k := fun t' ht' hb' k hk hi => by
      by_cases q : i = 4 * cu_g ob t' + k
      · left
        exact ⟨cu_inj (hb'.trans hb.symm) (by omega), by omega⟩
      · right; omega
    have hle : ¬ (4 : Int32) * nI O ≤ nI i := by rw [e4]; exact nI_ge (by omega) (by omega)
    by_cases z : mo (i / 4) = 0
    · obtain ⟨mo2, mb2, y1, k1, k2, k3, k4, k5, k6, k7⟩ := ih (i + 1) (by omega) mo mb x1 hx I
      refine ⟨mo2, mb2, y1, k1, k2, k3, k4, fun y => ?_, k6, fun post hp => br_f hle (And.intro (by decide) (And.intro (by rw [eD]; exact vp_in_nI (by omega) (by decide)) (br_t (by rw [eD, nI_clamp (by omega)]; exact z) (ym_38 hx (k7 post hp)))))⟩
      obtain ⟨q1, q2, q3, q4⟩ := k5 y
      refine ⟨q1, q2, q3, fun t' ht' hb' k hk hi hM => ?_⟩
      rcases U t' ht' hb' k hk hi with ⟨rfl, _⟩ | hi'
      · rw [ym_t hb', hg] at hM
        exact absurd z hM
      · exact q4 t' ht' hb' k hk hi' hM
    · have ei : 4 * cu_g ob t + i % 4 = i := by omega
      have rr := hV t ht hb (i % 4) (by omega)
      rw [ei] at rr
      have Mt : ¬ ym_M ob mo mb t = 0 := by rw [ym_t hb, hg]; exact z
      obtain ⟨mo1, mb1, q, j1, j2, j3, j4, j5⟩ := ym_meet (yc := yc) (yt := yt) (ys := ys) (ym := ym) (ya := ya) (yw := yw) (yv := yv) (yu := yu) (yo := yo) (yk := yk) (yp := yp) (ye := ye) (ycp := ycp) (ycf := ycf) (ymt := ymt) (kd := kd) (ytk := ytk) (ytp := ytp) (ysk := ysk) (yoc := yoc) (ybt := ybt) (ow := ow) (ed := ed) (wa := wa) (yh := yh) (vl := vl) (ypr := ypr) (no := nI O) (nb := nI B) (yof := yof) (ybp := ybp) (sv := sv) (vr := vr) hN rr (fun C hC s hs hv => hC.2 t ht (I C hC t ht Mt) _ (Or.inl ⟨hb, i % 4, by omega, rfl⟩) s hs hv) I
      have W : ∀ post : Int32 → SY → Prop, (¬ mo (nI i / 4).toNatClampNeg = 0) ∧ vp_in (nI i / 4) 201 ∧ vp_in (nI i) 804 ∧ yof (nI i).toNatClampNeg = yof i := fun post => ⟨by rw [eD, nI_clamp (by omega)]; exact z, by rw [eD]; exact vp_in_nI (by omega) (by decide), vp_in_nI (by omega) (by decide), by rw [nI_clamp (by omega)]⟩
      rcases j4 with ⟨rfl, rfl, rfl⟩ | ⟨rfl, jc⟩
      · obtain ⟨mo2, mb2, y1, k1, k2, k3, k4, k5, k6, k7⟩ := ih (i + 1) (by omega) mo1 mb1 x1 hx I
        refine ⟨mo2, mb2, y1, k1, k2, k3, k4, fun y => ?_, k6, fun post hp => br_f hle (And.intro (by decide) (And.intro (W post).2.1 (br_f (W post).1 (And.intro (W post).2.2.1 (by rw [(W post).2.2.2]; exact j5 _ (br_t rfl (ym_38 hx (k7 post hp))))))))⟩
        obtain ⟨q1, q2, q3, q4⟩ := k5 y
        refine ⟨q1, q2, q3, fun t' ht' hb' k hk hi hM => ?_⟩
        rcases U t' ht' hb' k hk hi with ⟨rfl, rfl⟩ | hi'
        · exact j3
        · exact q4 t' ht' hb' k hk hi' hM
      · obtain ⟨mo2, mb2, y1, k1, k2, k3, k4, k5, k6, k7⟩ := ih (i + 1) (by omega) mo1 mb1 1 (Or.inr rfl) j1
        refine ⟨mo2, mb2, y1, k1, k2, fun t ht h => k3 t ht (j2 t ht h), by omega, fun y => absurd (k5 y).1 (by decide), fun _ => Or.inr (by omega), fun post hp => br_f hle (And.intro (by decide) (And.intro (W post).2.1 (br_f (W post).1 (And.intro (W post).2.2.1 (by rw [(W post).2.2.2]; exact j5 _ (br_f (by decide) (nm_r (nI_1 i) (k7 post hp))))))))⟩
end
end
section
section
variable {yc yt ys ym no nb ya yw yv yu yo yk yp ye : Int32} {ycp ycf ymt kd ytk ytp ysk yoc ybt ybp ow ed wa yh ypr mo mb : Nat → Int32} {yof sv vr vl : Nat → Int64}
variable {N A : Nat} {ob : Nat → Bool} {ba : Nat → Int32} {of sl : Nat → Int64} {root : Int64}
theorem ym_p2 {O B : Nat} (hN : N ≤ 200) (hA : A ≤ 201) (hB : B = N - cu_O ob N) (hV : ∀ t, t < N → ob t = false → ∃ a, a < A ∧ ba t = nI a ∧ ybp (cu_g ob t) = nI a) (hS : ∀ a, a < A → vb_R ob N (sl (a * 7 + 6)) (sv a) ∧ ∀ k, k < 6 → vb_R ob N (sl (a * 7 + k)) (vr (6 * a + k))) : ∀ e i : Nat, i + e = 7 * B → ∀ (mo mb : Nat → Int32) (x1 : Int32), (x1 = 0 ∨ x1 = 1) → ym_I N A ob ba of sl root mo mb → ∃ mo' mb' y1, (y1 = 0 ∨ y1 = 1) ∧ ym_I N A ob ba of sl root mo' mb' ∧ (∀ t, t < N → ¬ ym_M ob mo mb t = 0 → ¬ ym_M ob mo' mb' t = 0) ∧ cn_z (ym_M ob mo mb) N ≤ cn_z (ym_M ob mo' mb') N ∧ (y1 = 0 → x1 = 0 ∧ mo' = mo ∧ mb' = mb ∧ ∀ t, t < N → ob t = false → ∀ a k, a < A → ba t = nI a → k < 7 → i ≤ 7 * cu_g ob t + k → ¬ ym_M ob mo mb t = 0 → ∀ s, s < N → vf_R ob (sl (a * 7 + k)) s → ¬ ym_M ob mo mb s = 0) ∧ (y1 = 1 → x1 = 1 ∨ cn_z (ym_M ob mo mb) N < cn_z (ym_M ob mo' mb') N) ∧ ∀ post : Int32 → SY → Prop, post y1 (yc, yt, ys, ym, nI O, nI B, ya, yw, yv, yu, yo, yk, yp, ye, ycp, ycf, ymt, kd, ytk, ytp, ysk, yoc, yof, ybt, ybp, sv, vr, ow, ed, wa, yh, vl, ypr, mo', mb') → wY_meetMore_56 post (e + 1) x1 (nI i) yc yt ys ym (nI O) (nI B) ya yw yv yu yo yk yp ye ycp ycf ymt kd ytk ytp ysk yoc yof ybt ybp sv vr ow ed wa yh vl ypr mo mb := by
  have l := cu_le ob N
  have e7 : (7 : Int32) * nI B = nI (7 * B) := pk_mul 7 B
  intro e
  induction e with
  | zero =>
    intro i h mo mb x1 hx I
    refine ⟨mo, mb, x1, hx, I, fun t ht h => h, Nat.le_refl _, fun z => ⟨z, rfl, rfl, fun t ht hb a k ha hba hk hi => ?_⟩, fun z => Or.inl z, fun post hp => br_t (by rw [e7]; exact nI_le (by omega) (by omega)) (And.intro (fi_nar hx) hp)⟩
    have := cu_gf hb ht
    omega
  | succ e ih =>
    intro i h mo mb x1 hx I
    obtain ⟨t, ht, hb, hg⟩ := cu_st0 (ob := ob) (N := N) (o := i / 7) (by omega)
    obtain ⟨a, ha, ea, eb⟩ := hV t ht hb
    rw [hg] at eb
    have eD : nI i / 7 = nI (i / 7) := pk_div (d := 7) (by omega) (by omega) (by omega)
    have er : nI i - nI (i / 7) * 7 = nI (i % 7) := by
      rw [← eD]
      exact pk_rem (d := 7) (by omega) (by omega) (by omega)
    have U : ∀ t', t' < N → ob t' = false → ∀ k, k < 7 → i ≤ 7 * cu_g ob t' + k → (t' = t ∧ k = i % 7) ∨ i + 1 ≤ 7 * cu_g ob t' + k := fun t' ht' hb' k hk hi => by
      by_cases q : i = 7 * cu_g ob t' + k
      · left
        exact ⟨cu_inj (hb'.trans hb.symm) (by omega), by omega⟩
      · right; omega
    have hle : ¬ (7 : Int32) * nI B ≤ nI i := by rw [e7]; exact nI_ge (by omega) (by omega)
    have i7 : i / 7 < 201 := by omega
    obtain ⟨y, hy, rr⟩ : ∃ y, ((i % 7 = 6 ∧ y = sv a) ∨ (¬ i % 7 = 6 ∧ y = vr (6 * a + i % 7))) ∧ vb_R ob N (sl (a * 7 + i % 7)) y := by
      obtain ⟨s1, s2⟩ := hS a ha
      by_cases q : i % 7 = 6
      · exact ⟨sv a, Or.inl ⟨q, rfl⟩, by rw [q]; exact s1⟩
      · exact ⟨vr (6 * a + i % 7), Or.inr ⟨q, rfl⟩, s2 _ (by omega)⟩
    have Wk : ∀ (mo mb : Nat → Int32) (post : Int32 → SY → Prop), wY_meetMore_109 post (wY_meetMore_56 post (e + 1)) x1 (nI i) y yc yt ys ym (nI O) (nI B) ya yw yv yu yo yk yp ye ycp ycf ymt kd ytk ytp ysk yoc yof ybt ybp sv vr ow ed wa yh vl ypr mo mb → wY_meetMore_56 post (e + 1 + 1) x1 (nI i) yc yt ys ym (nI O) (nI B) ya yw yv yu yo yk yp ye ycp ycf ymt kd ytk ytp ysk yoc yof ybt ybp sv vr ow ed wa yh vl ypr mo mb := fun mo mb post hp => by
      refine br_f hle (And.intro (by decide) (And.intro (by rw [eD]; exact vp_in_nI i7 (by decide)) (nm_r (e' := nI a) (by rw [eD, nI_clamp (by omega)]; exact eb) (And.intro (by decide) ?_))))
      rw [eD, er]
      rcases hy with ⟨q, rfl⟩ | ⟨q, rfl⟩
      · exact br_t (by rw [q]; rfl) (And.intro (vp_in_nI (by omega) (by decide)) (by rw [nI_clamp (by omega)]; exact hp))
      · have e6 : (6 : Int32) * nI a + nI (i % 7) = nI (6 * a + i % 7) := mt_j6
        exact br_f (ay_nIne (b := 6) q (by omega) (by decide)) (And.intro (by decide) (And.intro (by rw [e6]; exact vp_in_nI (by omega) (by decide)) (by rw [e6, nI_clamp (by omega)]; exact hp)))
    by_cases z : mb (i / 7) = 0
    · obtain ⟨mo2, mb2, y1, k1, k2, k3, k4, k5, k6, k7⟩ := ih (i + 1) (by omega) mo mb x1 hx I
      refine ⟨mo2, mb2, y1, k1, k2, k3, k4, fun y0 => ?_, k6, fun post hp => Wk mo mb post (And.intro (by decide) (And.intro (by rw [eD]; exact vp_in_nI i7 (by decide)) (br_t (by rw [eD, nI_clamp (by omega)]; exact z) (ym_132 hx (k7 post hp)))))⟩
      obtain ⟨q1, q2, q3, q4⟩ := k5 y0
      refine ⟨q1, q2, q3, fun t' ht' hb' a' k ha' hba' hk hi hM => ?_⟩
      rcases U t' ht' hb' k hk hi with ⟨rfl, _⟩ | hi'
      · rw [ym_f hb', hg] at hM
        exact absurd z hM
      · exact q4 t' ht' hb' a' k ha' hba' hk hi' hM
    · have Mt : ¬ ym_M ob mo mb t = 0 := by rw [ym_f hb, hg]; exact z
      have zz : ¬ mb (nI i / 7).toNatClampNeg = 0 := by rw [eD, nI_clamp (by omega)]; exact z
      have zv : vp_in (nI i / 7) 201 := by rw [eD]; exact vp_in_nI i7 (by decide)
      obtain ⟨mo1, mb1, q, j1, j2, j3, j4, j5⟩ := ym_meet (yc := yc) (yt := yt) (ys := ys) (ym := ym) (ya := ya) (yw := yw) (yv := yv) (yu := yu) (yo := yo) (yk := yk) (yp := yp) (ye := ye) (ycp := ycp) (ycf := ycf) (ymt := ymt) (kd := kd) (ytk := ytk) (ytp := ytp) (ysk := ysk) (yoc := yoc) (ybt := ybt) (ow := ow) (ed := ed) (wa := wa) (yh := yh) (vl := vl) (ypr := ypr) (no := nI O) (nb := nI B) (yof := yof) (ybp := ybp) (sv := sv) (vr := vr) hN rr (fun C hC s hs hv => hC.2 t ht (I C hC t ht Mt) _ (Or.inr ⟨hb, a, i % 7, ha, by omega, ea, rfl⟩) s hs hv) I
      rcases j4 with ⟨rfl, rfl, rfl⟩ | ⟨rfl, jc⟩
      · obtain ⟨mo2, mb2, y1, k1, k2, k3, k4, k5, k6, k7⟩ := ih (i + 1) (by omega) mo1 mb1 x1 hx I
        refine ⟨mo2, mb2, y1, k1, k2, k3, k4, fun y0 => ?_, k6, fun post hp => Wk mo1 mb1 post (And.intro (by decide) (And.intro zv (br_f zz (j5 _ (br_t rfl (ym_132 hx (k7 post hp)))))))⟩
        obtain ⟨q1, q2, q3, q4⟩ := k5 y0
        refine ⟨q1, q2, q3, fun t' ht' hb' a' k ha' hba' hk hi hM => ?_⟩
        rcases U t' ht' hb' k hk hi with ⟨rfl, rfl⟩ | hi'
        · have : a' = a := by
            rw [ea] at hba'
            exact ((nI_eq (by omega) (by omega)).mp hba').symm
          subst this
          exact j3
        · exact q4 t' ht' hb' a' k ha' hba' hk hi' hM
      · obtain ⟨mo2, mb2, y1, k1, k2, k3, k4, k5, k6, k7⟩ := ih (i + 1) (by omega) mo1 mb1 1 (Or.inr rfl) j1
        exact ⟨mo2, mb2, y1, k1, k2, fun t ht h => k3 t ht (j2 t ht h), by omega, fun y0 => absurd (k5 y0).1 (by decide), fun _ => Or.inr (by omega), fun post hp => Wk mo mb post (And.intro (by decide) (And.intro zv (br_f zz (j5 _ (br_f (by decide) (nm_r (nI_1 i) (k7 post hp)))))))⟩
theorem ym_more {O B : Nat} (hN : N ≤ 200) (hA : A ≤ 201) (hO : O = cu_O ob N) (hB : B = N - cu_O ob N) (hF : ∀ t, t < N → ob t = true → ∀ k, k < 4 → vb_R ob N (of (t * 4 + k)) (yof (4 * cu_g ob t + k))) (hV : ∀ t, t < N → ob t = false → ∃ a, a < A ∧ ba t = nI a ∧ ybp (cu_g ob t) = nI a) (hS : ∀ a, a < A → vb_R ob N (sl (a * 7 + 6)) (sv a) ∧ ∀ k, k < 6 → vb_R ob N (sl (a * 7 + k)) (vr (6 * a + k))) (I : ym_I N A ob ba of sl root mo mb) : ∃ mo' mb' y1, ym_I N A ob ba of sl root mo' mb' ∧ (∀ t, t < N → ¬ ym_M ob mo mb t = 0 → ¬ ym_M ob mo' mb' t = 0) ∧ ((y1 = 0 ∧ mo' = mo ∧ mb' = mb ∧ ∀ t, t < N → ¬ ym_M ob mo mb t = 0 → ∀ x, vf_V A ob ba of sl t x → ∀ s, s < N → vf_R ob x s → ¬ ym_M ob mo mb s = 0) ∨ (y1 = 1 ∧ cn_z (ym_M ob mo mb) N < cn_z (ym_M ob mo' mb') N)) ∧ ∀ post : Int32 → SY → Prop, post y1 (yc, yt, ys, ym, nI O, nI B, ya, yw, yv, yu, yo, yk, yp, ye, ycp, ycf, ymt, kd, ytk, ytp, ysk, yoc, yof, ybt, ybp, sv, vr, ow, ed, wa, yh, vl, ypr, mo', mb') → wpY_meetMore post (yc, yt, ys, ym, nI O, nI B, ya, yw, yv, yu, yo, yk, yp, ye, ycp, ycf, ymt, kd, ytk, ytp, ysk, yoc, yof, ybt, ybp, sv, vr, ow, ed, wa, yh, vl, ypr, mo, mb) := by
  obtain ⟨mo1, mb1, y1, a1, a2, a3, a4, a5, a6, a7⟩ := ym_p1 (yc := yc) (yt := yt) (ys := ys) (ym := ym) (ya := ya) (yw := yw) (yv := yv) (yu := yu) (yo := yo) (yk := yk) (yp := yp) (ye := ye) (ycp := ycp) (ycf := ycf) (ymt := ymt) (kd := kd) (ytk := ytk) (ytp := ytp) (ysk := ysk) (yoc := yoc) (ybt := ybt) (ow := ow) (ed := ed) (wa := wa) (yh := yh) (vl := vl) (ypr := ypr) (ybp := ybp) (sv := sv) (vr := vr) (B := B) hN hO hF (4 * O) 0 (by omega) mo mb 0 (Or.inl rfl) I
  obtain ⟨mo2, mb2, y2, b1, b2, b3, b4, b5, b6, b7⟩ := ym_p2 (yc := yc) (yt := yt) (ys := ys) (ym := ym) (ya := ya) (yw := yw) (yv := yv) (yu := yu) (yo := yo) (yk := yk) (yp := yp) (ye := ye) (ycp := ycp) (ycf := ycf) (ymt := ymt) (kd := kd) (ytk := ytk) (ytp := ytp) (ysk := ysk) (yoc := yoc) (ybt := ybt) (ow := ow) (ed := ed) (wa := wa) (yh := yh) (vl := vl) (ypr := ypr) (yof := yof) (O := O) hN hA hB hV hS (7 * B) 0 (by omega) mo1 mb1 y1 a1 a2
  refine ⟨mo2, mb2, y2, b2, fun t ht h => b3 t ht (a3 t ht h), ?_, fun post hp => Exists.intro _ (a7 post ⟨_, b7 post hp⟩)⟩
  rcases b1 with rfl | rfl
  · left
    obtain ⟨c1, c2, c3, c4⟩ := b5 rfl
    subst c1 c2 c3
    obtain ⟨d1, d2, d3, d4⟩ := a5 rfl
    subst d2 d3
    refine ⟨rfl, rfl, rfl, fun t ht hM x hx s hs hv => ?_⟩
    rcases hx with ⟨hb, k, hk, rfl⟩ | ⟨hb, a, k, ha, hk, hba, rfl⟩
    · exact d4 t ht hb k hk (Nat.zero_le _) hM s hs hv
    · exact c4 t ht hb a k ha hba hk (Nat.zero_le _) hM s hs hv
  · right
    refine ⟨rfl, ?_⟩
    rcases b6 rfl with z | z
    · rcases a6 z with q | q
      · exact absurd q (by decide)
      · omega
    · omega
theorem ym_while {O B : Nat} (hN : N ≤ 200) (hA : A ≤ 201) (hO : O = cu_O ob N) (hB : B = N - cu_O ob N) (hF : ∀ t, t < N → ob t = true → ∀ k, k < 4 → vb_R ob N (of (t * 4 + k)) (yof (4 * cu_g ob t + k))) (hV : ∀ t, t < N → ob t = false → ∃ a, a < A ∧ ba t = nI a ∧ ybp (cu_g ob t) = nI a) (hS : ∀ a, a < A → vb_R ob N (sl (a * 7 + 6)) (sv a) ∧ ∀ k, k < 6 → vb_R ob N (sl (a * 7 + k)) (vr (6 * a + k))) : ∀ (d : Nat) (mo mb : Nat → Int32), N + 1 ≤ cn_z (ym_M ob mo mb) N + d → ym_I N A ob ba of sl root mo mb → (∀ s, s < N → vf_R ob root s → ¬ ym_M ob mo mb s = 0) → ∃ mo' mb', ym_I N A ob ba of sl root mo' mb' ∧ rc_C N A ob ba of sl root (fun t => ¬ ym_M ob mo' mb' t = 0) ∧ ∀ post : Int32 → SY → Prop, (∃ m, wY_reach_69 post yc yt ys ym (nI O) (nI B) ya yw yv yu yo yk yp ye ycp ycf ymt kd ytk ytp ysk yoc yof ybt ybp sv vr ow ed wa yh vl ypr mo' mb' m 0 0) → ∃ m, wY_reach_53 post m 1 yc yt ys ym (nI O) (nI B) ya yw yv yu yo yk yp ye ycp ycf ymt kd ytk ytp ysk yoc yof ybt ybp sv vr ow ed wa yh vl ypr mo mb := by
  intro d
  induction d with
  | zero =>
    intro mo mb h
    have := cn_le (ym_M ob mo mb) N
    omega
  | succ d ih =>
    intro mo mb h I R
    obtain ⟨mo1, mb1, y1, a1, a2, a3, a4⟩ := ym_more (yc := yc) (yt := yt) (ys := ys) (ym := ym) (ya := ya) (yw := yw) (yv := yv) (yu := yu) (yo := yo) (yk := yk) (yp := yp) (ye := ye) (ycp := ycp) (ycf := ycf) (ymt := ymt) (kd := kd) (ytk := ytk) (ytp := ytp) (ysk := ysk) (yoc := yoc) (ybt := ybt) (ow := ow) (ed := ed) (wa := wa) (yh := yh) (vl := vl) (ypr := ypr) hN hA hO hB hF hV hS I
    rcases a3 with ⟨rfl, rfl, rfl, c⟩ | ⟨rfl, c⟩
    · exact ⟨mo1, mb1, I, ⟨R, fun t ht hM x hx s hs hv => c t ht hM x hx s hs hv⟩, fun post hp => ⟨2, br_f (by decide) (a4 _ (br_t rfl hp))⟩⟩
    · obtain ⟨mo2, mb2, b1, b2, b3⟩ := ih mo1 mb1 (by omega) a1 (fun s hs hv => a2 s hs (R s hs hv))
      refine ⟨mo2, mb2, b1, b2, fun post hp => ?_⟩
      obtain ⟨m, hm⟩ := b3 post hp
      exact ⟨m + 1, br_f (by decide) (a4 _ hm)⟩
theorem ym_ct (post : Int32 → SY → Prop) {O : Nat} (hO : O ≤ 200) (hp : post (nI (cn_z mo O)) (yc, yt, ys, ym, nI O, nb, ya, yw, yv, yu, yo, yk, yp, ye, ycp, ycf, ymt, kd, ytk, ytp, ysk, yoc, yof, ybt, ybp, sv, vr, ow, ed, wa, yh, vl, ypr, mo, mb)) : ∀ e k : Nat, k + e = O → wY_reach_69 post yc yt ys ym (nI O) nb ya yw yv yu yo yk yp ye ycp ycf ymt kd ytk ytp ysk yoc yof ybt ybp sv vr ow ed wa yh vl ypr mo mb (e + 1) (nI (cn_z mo k)) (nI k) := by
  intro e
  induction e with
  | zero =>
    intro k h
    have : k = O := by omega
    subst this
    exact br_t (nI_le (Nat.le_refl _) (by omega)) hp
  | succ e ih =>
    intro k h
    have I := ih (k + 1) (by omega)
    have q : cn_z mo (k + 1) = cn_z mo k + (if mo k = 0 then 0 else 1) := rfl
    by_cases z : mo k = 0
    · rw [q, if_pos z, Nat.add_zero] at I
      exact br_f (nI_ge (by omega) (by omega)) (And.intro (vp_in_nI (by omega) (by decide)) (br_t (by rw [nI_clamp (by omega)]; exact z) (nm_r (nI_1 k) I)))
    · rw [q, if_neg z] at I
      exact br_f (nI_ge (by omega) (by omega)) (And.intro (vp_in_nI (by omega) (by decide)) (br_f (by rw [nI_clamp (by omega)]; exact z) (nm_r (nI_1 _) (nm_r (nI_1 k) I))))
theorem ym_cl (post : Int32 → SY → Prop) (hp : wpY_meet (fun r u => match u with | (yc, yt, ys, ym, no, nb, ya, yw, yv, yu, yo, yk, yp, ye, ycp, ycf, ymt, kd, ytk, ytp, ysk, yoc, yof, ybt, ybp, sv, vr, ow, ed, wa, yh, vl, ypr, mo, mb) => ∃ m, wY_reach_53 post m r yc yt ys ym no nb ya yw yv yu yo yk yp ye ycp ycf ymt kd ytk ytp ysk yoc yof ybt ybp sv vr ow ed wa yh vl ypr mo mb) (yc, yt, ys, ym, no, nb, ya, yw, yv, yu, yo, yk, yp, ye, ycp, ycf, ymt, kd, ytk, ytp, ysk, yoc, yof, ybt, ybp, sv, vr, ow, ed, wa, yh, vl, ypr, um_n mo 201, um_n mb 201) (vl 0)) : ∀ e k : Nat, k + e = 201 → wY_reach_15 post yc yt ys ym no nb ya yw yv yu yo yk yp ye (e + 1) (nI k) ycp ycf ymt kd ytk ytp ysk yoc yof ybt ybp sv vr ow ed wa yh vl ypr (um_n mo k) (um_n mb k) := by
  intro e
  induction e with
  | zero =>
    intro k h
    have : k = 201 := by omega
    subst this
    exact br_t (by decide) hp
  | succ e ih =>
    intro k h
    exact br_f (nI_ge (b := 201) (by omega) (by decide)) (And.intro (vp_in_nI (by omega) (by decide)) (nm_r (e' := um_n mo (k + 1)) (by rw [nI_clamp (by omega), ay_n0]; rfl) (And.intro (vp_in_nI (by omega) (by decide)) (nm_r (e' := um_n mb (k + 1)) (by rw [nI_clamp (by omega), ay_n0]; rfl) (nm_r (nI_1 k) (ih (k + 1) (by omega)))))))
theorem ym_go {O B : Nat} (hN : N ≤ 200) (hA : A ≤ 201) (hO : O = cu_O ob N) (hB : B = N - cu_O ob N) (hr : vb_R ob N root (vl 0)) (hF : ∀ t, t < N → ob t = true → ∀ k, k < 4 → vb_R ob N (of (t * 4 + k)) (yof (4 * cu_g ob t + k))) (hV : ∀ t, t < N → ob t = false → ∃ a, a < A ∧ ba t = nI a ∧ ybp (cu_g ob t) = nI a) (hS : ∀ a, a < A → vb_R ob N (sl (a * 7 + 6)) (sv a) ∧ ∀ k, k < 6 → vb_R ob N (sl (a * 7 + k)) (vr (6 * a + k))) : ∃ mo' mb', ym_I N A ob ba of sl root mo' mb' ∧ rc_C N A ob ba of sl root (fun t => ¬ ym_M ob mo' mb' t = 0) ∧ ∀ post : Int32 → SY → Prop, post (nI (cn_z mo' O)) (yc, yt, ys, ym, nI O, nI B, ya, yw, yv, yu, yo, yk, yp, ye, ycp, ycf, ymt, kd, ytk, ytp, ysk, yoc, yof, ybt, ybp, sv, vr, ow, ed, wa, yh, vl, ypr, mo', mb') → ∃ m, wY_reach_15 post yc yt ys ym (nI O) (nI B) ya yw yv yu yo yk yp ye m 0 ycp ycf ymt kd ytk ytp ysk yoc yof ybt ybp sv vr ow ed wa yh vl ypr mo mb := by
  have l := cu_le ob N
  have z : ∀ t, t < N → ym_M ob (um_n mo 201) (um_n mb 201) t = 0 := fun t ht => by
    cases q : ob t with
    | true =>
      have := cu_gt q ht
      rw [ym_t q]; exact um_in (by omega)
    | false =>
      have := cu_gf q ht
      rw [ym_f q]; exact um_in (by omega)
  have I0 : ym_I N A ob ba of sl root (um_n mo 201) (um_n mb 201) := fun C hC t ht h => absurd (z t ht) h
  obtain ⟨mo1, mb1, q, a1, a2, a3, a4, a5⟩ := ym_meet (yc := yc) (yt := yt) (ys := ys) (ym := ym) (ya := ya) (yw := yw) (yv := yv) (yu := yu) (yo := yo) (yk := yk) (yp := yp) (ye := ye) (ycp := ycp) (ycf := ycf) (ymt := ymt) (kd := kd) (ytk := ytk) (ytp := ytp) (ysk := ysk) (yoc := yoc) (ybt := ybt) (ow := ow) (ed := ed) (wa := wa) (yh := yh) (vl := vl) (ypr := ypr) (no := nI O) (nb := nI B) (yof := yof) (ybp := ybp) (sv := sv) (vr := vr) hN hr (fun C hC s hs hv => hC.1 s hs hv) I0
  rcases a4 with ⟨rfl, rfl, rfl⟩ | ⟨rfl, _⟩
  · refine ⟨um_n mo 201, um_n mb 201, I0, ⟨a3, fun t ht h => absurd (z t ht) h⟩, fun post hp => ⟨202, ym_cl post (a5 _ (Exists.intro 1 (br_t rfl (Exists.intro (O + 1) (ym_ct post (by omega) hp O 0 (by omega)))))) 201 0 rfl⟩⟩
  · obtain ⟨mo2, mb2, b1, b2, b3⟩ := ym_while (yc := yc) (yt := yt) (ys := ys) (ym := ym) (ya := ya) (yw := yw) (yv := yv) (yu := yu) (yo := yo) (yk := yk) (yp := yp) (ye := ye) (ycp := ycp) (ycf := ycf) (ymt := ymt) (kd := kd) (ytk := ytk) (ytp := ytp) (ysk := ysk) (yoc := yoc) (ybt := ybt) (ow := ow) (ed := ed) (wa := wa) (yh := yh) (vl := vl) (ypr := ypr) hN hA hO hB hF hV hS (N + 1) mo1 mb1 (by omega) a1 a3
    refine ⟨mo2, mb2, b1, b2, fun post hp => ⟨202, ym_cl post (a5 _ ?_) 201 0 rfl⟩⟩
    exact b3 post (Exists.intro (O + 1) (ym_ct post (by omega) hp O 0 (by omega)))
end
end
section
theorem im_reach {u : SX} {v : SY} (I : rk_R u v) : wpX_reach (fun r u' => wpY_reach (fun r' v' => r' = r ∧ rk_R u' v') v) u := by
  obtain ⟨NC, NT, SP, KN, PN, SZ, G, mn, n, na, f, ws, vs, en, pc, tc, dc, no, nb, ya, yw, yv, yu, yo, yk, yp, ye, rs, cp, cf, mt, op, tk, tp, fp, sk, oc, bt, ba, rd, ac, af, fa, fw, fv, wt, wd, pr, mc, kd, yoc, ybt, ybp, ow, ed, wa, yh, ypr, mo, mb, of, sl, wv, yof, sv, vr, vl, rfl, rfl, S⟩ := I
  obtain ⟨u', v', F, gX, gY⟩ := pf_go (ns := nI SP) (sk := sk) (py := ypr) S.1 S.2.2.2.2 (n := n) (na := na) (f := f) (ws := ws) (vs := vs) (en := en) (pc := pc) (tc := tc) (dc := dc) (no := no) (nb := nb) (ya := ya) (yw := yw) (yv := yv) (yu := yu) (yo := yo) (yk := yk) (yp := yp) (ye := ye) (rs := rs) (oc := oc) (bt := bt) (ba := ba) (rd := rd) (ac := ac) (af := af) (fa := fa) (fw := fw) (fv := fv) (wt := wt) (wd := wd) (pr := pr) (mc := mc) (yoc := yoc) (ybt := ybt) (ybp := ybp) (ow := ow) (ed := ed) (wa := wa) (yh := yh) (mo := mo) (mb := mb) (of := of) (sl := sl) (wv := wv) (yof := yof) (sv := sv) (vr := vr) (vl := vl)
  have R := fr_k S F
  obtain ⟨N, A, T, Pc, D, ob, na1, f1, ws1, vs1, en1, ya1, yw1, yv1, yu1, rs1, oc1, bt1, ba1, rd1, ac1, af1, fa1, fw1, fv1, wt1, wd1, pr1, mc1, of1, sl1, wv1, yoc1, ybt1, ybp1, ow1, ed1, wa1, yh1, mo1, mb1, yof1, sv1, vr1, vl1, rfl, rfl, hen, ⟨hN, hP⟩, ⟨hm, ho⟩, hd⟩ := F
  by_cases e : en1 = 0
  · obtain ⟨hvs, hA, ⟨H1, H2, H3⟩, hv⟩ := hd e
    subst hvs
    have hF : ∀ t, t < N → ob t = true → ∀ k, k < 4 → vb_R ob N (of1 (t * 4 + k)) (yof1 (4 * cu_g ob t + k)) := fun t ht hb k hk => (H1 t ht hb).2 k hk
    have hV : ∀ t, t < N → ob t = false → ∃ a, a < A ∧ ba1 t = nI a ∧ ybp1 (cu_g ob t) = nI a := fun t ht hb => by
      obtain ⟨tm, a, _, _, h1, _, _, h2, h3⟩ := H2 t ht hb
      exact ⟨a, h1, h2, h3⟩
    have hS : ∀ a, a < A → vb_R ob N (sl1 (a * 7 + 6)) (sv1 a) ∧ ∀ k, k < 6 → vb_R ob N (sl1 (a * 7 + k)) (vr1 (6 * a + k)) := fun a ha => ⟨(H3 a ha).1, (H3 a ha).2.1⟩
    have hVs : ∀ a, a < A → ∀ k, k < 7 → xr_k N ob (sl1 (a * 7 + k)) := fun a ha k hk => by
      by_cases q : k = 6
      · subst q
        exact xr_kb (hS a ha).1
      · exact xr_kb ((hS a ha).2 k (by omega))
    obtain ⟨rd2, wv2, X1, X2, X3⟩ := xr_go (nc := nI NC) (nt := nI NT) (ns := nI SP) (mn := mn) (n := nI N) (na := na1) (f := f1) (ws := ws1) (en := en1) (rs := rs1) (pc := nI Pc) (tc := nI T) (dc := nI D) (cp := cp) (cf := cf) (mt := mt) (op := op) (tk := tk) (tp := tp) (fp := fp) (sk := sk) (oc := oc1) (of := of1) (bt := bt1) (ba := ba1) (rd := rd1) (sl := sl1) (ac := ac1) (af := af1) (fa := fa1) (fw := fw1) (fv := fv1) (wt := wt1) (wd := wd1) (wv := wv1) (pr := pr1) (mc := mc1) (A := A) (ob := ob) hN hA (xr_kb hv) (fun t ht hb k hk => xr_kb (hF t ht hb k hk)) (fun t ht hb => by
      obtain ⟨a, h1, h2, _⟩ := hV t ht hb
      exact ⟨a, h1, h2⟩) hVs
    obtain ⟨mo2, mb2, Y1, Y2, Y3⟩ := ym_go (yc := nI NC) (yt := nI NT) (ys := nI SP) (ym := mn) (ya := ya1) (yw := yw1) (yv := yv1) (yu := yu1) (yo := nI D) (yk := nI T) (yp := nI Pc) (ye := en1) (ycp := cp) (ycf := cf) (ymt := mt) (kd := kd) (ytk := tk) (ytp := tp) (ysk := sk) (yoc := yoc1) (yof := yof1) (ybt := ybt1) (ybp := ybp1) (sv := sv1) (vr := vr1) (ow := ow1) (ed := ed1) (wa := wa1) (yh := yh1) (vl := vl1) (ypr := pe_P pr1 ypr Pc) (mo := mo1) (mb := mb1) (A := A) (ob := ob) (O := cu_O ob N) (B := N - cu_O ob N) hN hA rfl rfl hv hF hV hS
    have eq : ∀ t, t < N → (rd2 t = 0 ↔ ym_M ob mo2 mb2 t = 0) := fun t ht => ⟨fun z => Classical.byContradiction fun y => Y1 _ X2 t ht y z, fun z => Classical.byContradiction fun y => X1 _ Y2 t ht y z⟩
    have ct : cn_z mo2 (cu_O ob N) = cn_z (xr_o ob rd2) N := ((xr_oc eq).trans (ym_cn N)).symm
    exact gX _ (br_t e (X3 _ (gY _ (br_t e (Y3 _ ⟨congrArg nI ct, rk_i S⟩)))))
  · exact gX _ (br_f e (gY _ (br_f e ⟨rfl, R⟩)))
end
section
def i_Rel (k : Nat) (u : SX) (v : SY) : Prop := rk_R u v
theorem i_up {k : Nat} {u : SX} {v : SY} (h : i_Rel k u v) : i_Rel (k + 3) u v := h
theorem i_vc0 : wpX_init (fun u => wpY_init (fun v => i_Rel 0 u v)) := im_init
theorem i_vc_newClass {k : Nat} {u : SX} {v : SY} (I : i_Rel k u v) (hk : k + 3 ≤ 1536) (v1 : Int32) (v2 : Int32) : wpX_newClass (fun r u' => wpY_newClass (fun r' v' => r' = r ∧ i_Rel (k + 3) u' v') v v1 v2) u v1 v2 := im_newClass I v1 v2
theorem i_vc_leaf {k : Nat} {u : SX} {v : SY} (I : i_Rel k u v) (hk : k + 3 ≤ 1536) (v1 : Int32) (v2 : Int32) : wpX_leaf (fun r u' => wpY_leaf (fun r' v' => r' = r ∧ i_Rel (k + 3) u' v') v v1 v2) u v1 v2 := im_leaf I v1 v2
theorem i_vc_one {k : Nat} {u : SX} {v : SY} (I : i_Rel k u v) (hk : k + 3 ≤ 1536) (v1 : Int32) (v2 : Int32) : wpX_one (fun r u' => wpY_one (fun r' v' => r' = r ∧ i_Rel (k + 3) u' v') v v1 v2) u v1 v2 := im_one I v1 v2
theorem i_vc_two {k : Nat} {u : SX} {v : SY} (I : i_Rel k u v) (hk : k + 3 ≤ 1536) (v1 : Int32) (v2 : Int32) : wpX_two (fun r u' => wpY_two (fun r' v' => r' = r ∧ i_Rel (k + 3) u' v') v v1 v2) u v1 v2 := im_two I v1 v2
theorem i_vc_three {k : Nat} {u : SX} {v : SY} (I : i_Rel k u v) (hk : k + 3 ≤ 1536) (v1 : Int32) (v2 : Int32) : wpX_three (fun r u' => wpY_three (fun r' v' => r' = r ∧ i_Rel (k + 3) u' v') v v1 v2) u v1 v2 := im_three I v1 v2
theorem i_vc_drop {k : Nat} {u : SX} {v : SY} (I : i_Rel k u v) (hk : k + 3 ≤ 1536) : wpX_drop (fun r u' => wpY_drop (fun r' v' => r' = r ∧ i_Rel (k + 3) u' v') v) u := im_drop I
theorem i_vc_method {k : Nat} {u : SX} {v : SY} (I : i_Rel k u v) (hk : k + 3 ≤ 1536) (v1 : Int32) (v2 : Int32) : wpX_method (fun r u' => wpY_method (fun r' v' => r' = r ∧ i_Rel (k + 3) u' v') v v1 v2) u v1 v2 := im_method I v1 v2
theorem i_vc_main {k : Nat} {u : SX} {v : SY} (I : i_Rel k u v) (hk : k + 3 ≤ 1536) : wpX_main (fun r u' => wpY_main (fun r' v' => r' = r ∧ i_Rel (k + 3) u' v') v) u := im_main I
theorem i_vc_forget {k : Nat} {u : SX} {v : SY} (I : i_Rel k u v) (hk : k + 3 ≤ 1536) : wpX_forget (fun u' => wpY_forget (fun v' => i_Rel (k + 3) u' v') v) u := im_forget I
theorem i_vc_depth {k : Nat} {u : SX} {v : SY} (I : i_Rel k u v) (hk : k + 3 ≤ 1536) : wpX_depth (fun r => wpY_depth (fun r' => r' = r ∧ i_Rel (k + 3) u v) v) u := im_depth I
theorem i_vc_run {k : Nat} {u : SX} {v : SY} (I : i_Rel k u v) (hk : k + 3 ≤ 1536) : wpX_run (fun r u' => wpY_run (fun r' v' => r' = r ∧ i_Rel (k + 3) u' v') v) u := im_run I
theorem i_vc_kind {k : Nat} {u : SX} {v : SY} (I : i_Rel k u v) (hk : k + 3 ≤ 1536) : wpX_kind (fun r u' => wpY_kind (fun r' v' => r' = r ∧ i_Rel (k + 3) u' v') v) u := im_kind I
theorem i_vc_value {k : Nat} {u : SX} {v : SY} (I : i_Rel k u v) (hk : k + 3 ≤ 1536) : wpX_value (fun r u' => wpY_value (fun r' v' => r' = r ∧ i_Rel (k + 3) u' v') v) u := im_value I
theorem i_vc_printed {k : Nat} {u : SX} {v : SY} (I : i_Rel k u v) (hk : k + 3 ≤ 1536) : wpX_printed (fun r u' => wpY_printed (fun r' v' => r' = r ∧ i_Rel (k + 3) u' v') v) u := im_printed I
theorem i_vc_output {k : Nat} {u : SX} {v : SY} (I : i_Rel k u v) (hk : k + 3 ≤ 1536) (v1 : Int32) : wpX_output (fun r u' => wpY_output (fun r' v' => r' = r ∧ i_Rel (k + 3) u' v') v v1) u v1 := im_output I v1
theorem i_vc_turns {k : Nat} {u : SX} {v : SY} (I : i_Rel k u v) (hk : k + 3 ≤ 1536) : wpX_turns (fun r u' => wpY_turns (fun r' v' => r' = r ∧ i_Rel (k + 3) u' v') v) u := im_turns I
theorem i_vc_deepest {k : Nat} {u : SX} {v : SY} (I : i_Rel k u v) (hk : k + 3 ≤ 1536) : wpX_deepest (fun r u' => wpY_deepest (fun r' v' => r' = r ∧ i_Rel (k + 3) u' v') v) u := im_deepest I
theorem i_vc_made {k : Nat} {u : SX} {v : SY} (I : i_Rel k u v) (hk : k + 3 ≤ 1536) (v1 : Int32) : wpX_made (fun r u' => wpY_made (fun r' v' => r' = r ∧ i_Rel (k + 3) u' v') v v1) u v1 := im_made I v1
theorem i_vc_reach {k : Nat} {u : SX} {v : SY} (I : i_Rel k u v) (hk : k + 3 ≤ 1536) : wpX_reach (fun r u' => wpY_reach (fun r' v' => r' = r ∧ i_Rel (k + 3) u' v') v) u := im_reach I
theorem i_vc_tidy {k : Nat} {u : SX} {v : SY} (I : i_Rel k u v) (hk : k + 3 ≤ 1536) (v1 : Int32) : wpX_tidy (fun r => wpY_tidy (fun r' => r' = r ∧ i_Rel (k + 3) u v) v v1) u v1 := im_tidy I v1
end
