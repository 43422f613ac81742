/-! values as longs -/
def vb_pk (s i : Int32) : Int64 := (s.toInt64 <<< ((32 : Int32).toInt64 &&& 63)) ||| (i.toInt64 &&& 4294967295)
theorem vb_c : ((32 : Int32).toInt64 &&& 63) = 32 := by decide
theorem vb_n (s i : Int32) : (vb_pk s i).toInt32 = i := by
  unfold vb_pk
  rw [vb_c]
  apply Int32.toBitVec_inj.mp
  apply BitVec.eq_of_getLsbD_eq
  intro j hj
  have e : ((s.toInt64 <<< 32) ||| (i.toInt64 &&& 4294967295)).toInt32.toBitVec = (((s.toBitVec.signExtend 64) <<< 32) ||| ((i.toBitVec.signExtend 64) &&& 4294967295#64)).signExtend 32 := by
    rfl
  rw [e]
  have h5 : (4294967295#64).getLsbD j = true := by
    have : ∀ j, j < 32 → (4294967295#64).getLsbD j = true := by decide +kernel
    exact this j hj
  have h9 : (BitVec.signExtend 64 i.toBitVec).getLsbD j = i.toBitVec.getLsbD j := by
    have h64 : j < 64 := by omega
    rw [BitVec.getLsbD_signExtend, if_pos hj]
    simp only [h64, decide_true, Bool.true_and]
  have h10 : j < 64 := by omega
  rw [BitVec.getLsbD_signExtend, if_pos (by omega), BitVec.getLsbD_or, BitVec.getLsbD_shiftLeft, BitVec.getLsbD_and, h9, h5]
  simp only [hj, h10, decide_true, Bool.not_true, Bool.true_and, Bool.false_and, Bool.and_false, Bool.false_or, Bool.and_true]
theorem vb_s {s i : Int32} (hs : s = 1 ∨ s = 2 ∨ s = 3 ∨ s = 4) : (vb_pk s i >>> ((32 : Int32).toInt64 &&& 63)).toInt32 = s := by
  unfold vb_pk
  rw [vb_c]
  apply Int32.toBitVec_inj.mp
  apply BitVec.eq_of_getLsbD_eq
  intro j hj
  have e : (((s.toInt64 <<< 32) ||| (i.toInt64 &&& 4294967295)) >>> 32).toInt32.toBitVec = ((((s.toBitVec.signExtend 64) <<< 32) ||| ((i.toBitVec.signExtend 64) &&& 4294967295#64)).sshiftRight 32).signExtend 32 := by
    rfl
  rw [e]
  have h5 : (4294967295#64).getLsbD (32 + j) = false := by
    have : ∀ j, j < 32 → (4294967295#64).getLsbD (32 + j) = false := by decide +kernel
    exact this j hj
  rw [BitVec.getLsbD_signExtend, if_pos (by omega), BitVec.getLsbD_sshiftRight]
  have h6 : ¬ 64 ≤ j := by omega
  have h7 : 32 + j < 64 := by omega
  simp only [h6, h7, decide_false, decide_true, Bool.not_false, Bool.true_and, if_true]
  rw [BitVec.getLsbD_or, BitVec.getLsbD_shiftLeft, BitVec.getLsbD_and, h5]
  have h8 : 32 + j - 32 = j := by omega
  have h10 : j < 64 := by omega
  have h11 : ¬ 32 + j < 32 := by omega
  rw [h8, BitVec.getLsbD_signExtend, if_pos hj]
  simp only [hj, h7, h10, h11, decide_true, decide_false, Bool.not_false, Bool.true_and, Bool.and_false, Bool.or_false]
theorem vb_nil : (4294967296 : Int64) = vb_pk 1 0 := by decide +kernel
theorem vb_s1 (i : Int32) : (vb_pk 1 i >>> ((32 : Int32).toInt64 &&& 63)).toInt32 = 1 := vb_s (Or.inl rfl)
theorem vb_s2 (i : Int32) : (vb_pk 2 i >>> ((32 : Int32).toInt64 &&& 63)).toInt32 = 2 := vb_s (Or.inr (Or.inl rfl))
theorem vb_s3 (i : Int32) : (vb_pk 3 i >>> ((32 : Int32).toInt64 &&& 63)).toInt32 = 3 := vb_s (Or.inr (Or.inr (Or.inl rfl)))
theorem vb_s4 (i : Int32) : (vb_pk 4 i >>> ((32 : Int32).toInt64 &&& 63)).toInt32 = 4 := vb_s (Or.inr (Or.inr (Or.inr rfl)))
theorem vb_inj {s i s' i' : Int32} (hs : s = 1 ∨ s = 2 ∨ s = 3 ∨ s = 4) (hs' : s' = 1 ∨ s' = 2 ∨ s' = 3 ∨ s' = 4) (h : vb_pk s i = vb_pk s' i') : s = s' ∧ i = i' := by
  have a := vb_n s i
  have b := vb_s (i := i) hs
  rw [h, vb_n] at a
  rw [h, vb_s hs'] at b
  exact ⟨b.symm, a.symm⟩
/-! the numbers of things -/
def cu_O (ob : Nat → Bool) : Nat → Nat
  | 0 => 0
  | t + 1 => cu_O ob t + (if ob t = true then 1 else 0)
def cu_g (ob : Nat → Bool) (t : Nat) : Nat := if ob t = true then cu_O ob t else t - cu_O ob t
theorem cu_le (ob : Nat → Bool) : ∀ t, cu_O ob t ≤ t
  | 0 => Nat.le_refl _
  | t + 1 => by
    have := cu_le ob t
    unfold cu_O
    split <;> omega
theorem cu_mono (ob : Nat → Bool) (s : Nat) : ∀ t, s ≤ t → cu_O ob s ≤ cu_O ob t ∧ s - cu_O ob s ≤ t - cu_O ob t
  | 0, h => by
    have : s = 0 := by omega
    subst this
    exact ⟨Nat.le_refl _, Nat.le_refl _⟩
  | t + 1, h => by
    by_cases e : s = t + 1
    · subst e
      exact ⟨Nat.le_refl _, Nat.le_refl _⟩
    · have i := cu_mono ob s t (by omega)
      have l := cu_le ob t
      rw [show cu_O ob (t + 1) = cu_O ob t + (if ob t = true then 1 else 0) from rfl]
      split <;> omega
theorem cu_st {ob : Nat → Bool} {t : Nat} (h : ob t = true) : cu_O ob (t + 1) = cu_O ob t + 1 := by
  rw [show cu_O ob (t + 1) = cu_O ob t + (if ob t = true then 1 else 0) from rfl, if_pos h]
theorem cu_sf {ob : Nat → Bool} {t : Nat} (h : ob t = false) : cu_O ob (t + 1) = cu_O ob t := by
  rw [show cu_O ob (t + 1) = cu_O ob t + (if ob t = true then 1 else 0) from rfl, if_neg (by rw [h]; exact Bool.noConfusion), Nat.add_zero]
theorem cu_gt {ob : Nat → Bool} {t n : Nat} (h : ob t = true) (hn : t < n) : cu_g ob t < cu_O ob n := by
  have a := (cu_mono ob (t + 1) n hn).1
  rw [cu_st h] at a
  unfold cu_g
  rw [if_pos h]
  omega
theorem cu_gf {ob : Nat → Bool} {t n : Nat} (h : ob t = false) (hn : t < n) : cu_g ob t < n - cu_O ob n := by
  have a := (cu_mono ob (t + 1) n hn).2
  have l := cu_le ob t
  rw [cu_sf h] at a
  unfold cu_g
  rw [if_neg (by rw [h]; exact Bool.noConfusion)]
  omega
theorem cu_inj1 {ob : Nat → Bool} {s t : Nat} (e : ob s = ob t) (h : s < t) : cu_g ob s < cu_g ob t := by
  cases k : ob s with
  | true =>
    have a := cu_gt k h
    have k' : ob t = true := e ▸ k
    have : cu_g ob t = cu_O ob t := if_pos k'
    omega
  | false =>
    have a := cu_gf k h
    have k' : ob t = false := e ▸ k
    have : cu_g ob t = t - cu_O ob t := if_neg (by rw [k']; exact Bool.noConfusion)
    omega
theorem cu_inj {ob : Nat → Bool} {s t : Nat} (e : ob s = ob t) (h : cu_g ob s = cu_g ob t) : s = t := by
  rcases Nat.lt_trichotomy s t with a | a | a
  · have := cu_inj1 e a; omega
  · exact a
  · have := cu_inj1 e.symm a; omega
theorem cu_cg {ob ob' : Nat → Bool} : ∀ {n : Nat}, (∀ t, t < n → ob' t = ob t) → cu_O ob' n = cu_O ob n
  | 0, _ => rfl
  | n + 1, h => by
    rw [show cu_O ob' (n + 1) = cu_O ob' n + (if ob' n = true then 1 else 0) from rfl, show cu_O ob (n + 1) = cu_O ob n + (if ob n = true then 1 else 0) from rfl, h n (by omega), cu_cg (fun t ht => h t (by omega))]
theorem cu_gcg {ob ob' : Nat → Bool} {n t : Nat} (h : ∀ t, t < n → ob' t = ob t) (ht : t < n) : cu_g ob' t = cu_g ob t := by
  unfold cu_g
  rw [h t ht, cu_cg (fun s hs => h s (by omega))]
/-! related values -/
def vb_R (ob : Nat → Bool) (n : Nat) (x y : Int64) : Prop :=
  (x = vb_pk 1 0 ∧ y = vb_pk 1 0) ∨ (∃ i, x = vb_pk 2 i ∧ y = vb_pk 2 i) ∨ (∃ t, t < n ∧ ob t = false ∧ x = vb_pk 3 (nI t) ∧ y = vb_pk 3 (nI (cu_g ob t))) ∨ (∃ t, t < n ∧ ob t = true ∧ x = vb_pk 4 (nI t) ∧ y = vb_pk 4 (nI (cu_g ob t)))
def vb_T (x : Int64) : Int32 := (x >>> ((32 : Int32).toInt64 &&& 63)).toInt32
theorem vC_1 (i : Int32) : vb_T (vb_pk 1 i) = 1 := vb_s1 i
theorem vC_2 (i : Int32) : vb_T (vb_pk 2 i) = 2 := vb_s2 i
theorem vC_3 (i : Int32) : vb_T (vb_pk 3 i) = 3 := vb_s3 i
theorem vC_4 (i : Int32) : vb_T (vb_pk 4 i) = 4 := vb_s4 i
theorem vB_mono {ob ob' : Nat → Bool} {n n' : Nat} (h : ∀ t, t < n → ob' t = ob t) (hn : n ≤ n') {x y : Int64} (r : vb_R ob n x y) : vb_R ob' n' x y := by
  rcases r with r | r | ⟨t, a, b, c, d⟩ | ⟨t, a, b, c, d⟩
  · exact Or.inl r
  · exact Or.inr (Or.inl r)
  · exact Or.inr (Or.inr (Or.inl ⟨t, by omega, (h t a).trans b, c, by rw [cu_gcg h a]; exact d⟩))
  · exact Or.inr (Or.inr (Or.inr ⟨t, by omega, (h t a).trans b, c, by rw [cu_gcg h a]; exact d⟩))
theorem vB_T {ob : Nat → Bool} {n : Nat} {x y : Int64} (r : vb_R ob n x y) : vb_T x = vb_T y := by
  rcases r with ⟨rfl, rfl⟩ | ⟨i, rfl, rfl⟩ | ⟨t, a, b, rfl, rfl⟩ | ⟨t, a, b, rfl, rfl⟩
  · rfl
  · rfl
  · rw [vC_3, vC_3]
  · rw [vC_4, vC_4]
theorem vB_2 {ob : Nat → Bool} {n : Nat} {x y : Int64} (r : vb_R ob n x y) (h : vb_T x = 2) : y = x ∧ x = vb_pk 2 x.toInt32 := by
  rcases r with ⟨rfl, rfl⟩ | ⟨i, rfl, rfl⟩ | ⟨t, a, b, rfl, rfl⟩ | ⟨t, a, b, rfl, rfl⟩
  · rw [vC_1] at h; exact absurd h (by decide)
  · exact ⟨rfl, by rw [vb_n]⟩
  · rw [vC_3] at h; exact absurd h (by decide)
  · rw [vC_4] at h; exact absurd h (by decide)
theorem vB_3 {ob : Nat → Bool} {n : Nat} {x y : Int64} (r : vb_R ob n x y) (h : vb_T x = 3) : ∃ t, t < n ∧ ob t = false ∧ x = vb_pk 3 (nI t) ∧ y = vb_pk 3 (nI (cu_g ob t)) := by
  rcases r with ⟨rfl, rfl⟩ | ⟨i, rfl, rfl⟩ | r | ⟨t, a, b, rfl, rfl⟩
  · rw [vC_1] at h; exact absurd h (by decide)
  · rw [vC_2] at h; exact absurd h (by decide)
  · exact r
  · rw [vC_4] at h; exact absurd h (by decide)
theorem vB_4 {ob : Nat → Bool} {n : Nat} {x y : Int64} (r : vb_R ob n x y) (h : vb_T x = 4) : ∃ t, t < n ∧ ob t = true ∧ x = vb_pk 4 (nI t) ∧ y = vb_pk 4 (nI (cu_g ob t)) := by
  rcases r with ⟨rfl, rfl⟩ | ⟨i, rfl, rfl⟩ | ⟨t, a, b, rfl, rfl⟩ | r
  · rw [vC_1] at h; exact absurd h (by decide)
  · rw [vC_2] at h; exact absurd h (by decide)
  · rw [vC_3] at h; exact absurd h (by decide)
  · exact r
theorem vB_eq {ob : Nat → Bool} {n : Nat} (hn : n ≤ 1000) {x y x' y' : Int64} (r : vb_R ob n x y) (r' : vb_R ob n x' y') : x = x' ↔ y = y' := by
  have one : vb_T x = vb_T x' → vb_T y = vb_T y' := fun h => by rw [← vB_T r, ← vB_T r']; exact h
  have L : ∀ s, cu_O ob s ≤ s := cu_le ob
  have G : ∀ t, t < n → cu_g ob t < 1001 := fun t ht => by
    have := L t
    unfold cu_g
    split <;> omega
  constructor
  · rintro rfl
    rcases r with ⟨rfl, rfl⟩ | ⟨i, rfl, rfl⟩ | ⟨t, a, b, rfl, rfl⟩ | ⟨t, a, b, rfl, rfl⟩
    · rcases r' with ⟨e, rfl⟩ | ⟨i', e, rfl⟩ | ⟨t', a', b', e, rfl⟩ | ⟨t', a', b', e, rfl⟩
      · rfl
      · exact e
      · exact absurd (vb_inj (by decide) (by decide) e).1 (by decide)
      · exact absurd (vb_inj (by decide) (by decide) e).1 (by decide)
    · rcases r' with ⟨e, rfl⟩ | ⟨i', e, rfl⟩ | ⟨t', a', b', e, rfl⟩ | ⟨t', a', b', e, rfl⟩
      · exact e
      · exact e
      · exact absurd (vb_inj (by decide) (by decide) e).1 (by decide)
      · exact absurd (vb_inj (by decide) (by decide) e).1 (by decide)
    · rcases r' with ⟨e, rfl⟩ | ⟨i', e, rfl⟩ | ⟨t', a', b', e, rfl⟩ | ⟨t', a', b', e, rfl⟩
      · exact absurd (vb_inj (by decide) (by decide) e).1 (by decide)
      · exact absurd (vb_inj (by decide) (by decide) e).1 (by decide)
      · have q := (vb_inj (by decide) (by decide) e).2
        rw [nI_eq (by omega) (by omega)] at q
        rw [q]
      · exact absurd (vb_inj (by decide) (by decide) e).1 (by decide)
    · rcases r' with ⟨e, rfl⟩ | ⟨i', e, rfl⟩ | ⟨t', a', b', e, rfl⟩ | ⟨t', a', b', e, rfl⟩
      · exact absurd (vb_inj (by decide) (by decide) e).1 (by decide)
      · exact absurd (vb_inj (by decide) (by decide) e).1 (by decide)
      · exact absurd (vb_inj (by decide) (by decide) e).1 (by decide)
      · have q := (vb_inj (by decide) (by decide) e).2
        rw [nI_eq (by omega) (by omega)] at q
        rw [q]
  · rintro rfl
    rcases r with ⟨rfl, rfl⟩ | ⟨i, rfl, rfl⟩ | ⟨t, a, b, rfl, rfl⟩ | ⟨t, a, b, rfl, rfl⟩
    · rcases r' with ⟨rfl, e⟩ | ⟨i', rfl, e⟩ | ⟨t', a', b', rfl, e⟩ | ⟨t', a', b', rfl, e⟩
      · rfl
      · exact e
      · exact absurd (vb_inj (by decide) (by decide) e).1 (by decide)
      · exact absurd (vb_inj (by decide) (by decide) e).1 (by decide)
    · rcases r' with ⟨rfl, e⟩ | ⟨i', rfl, e⟩ | ⟨t', a', b', rfl, e⟩ | ⟨t', a', b', rfl, e⟩
      · exact e
      · exact e
      · exact absurd (vb_inj (by decide) (by decide) e).1 (by decide)
      · exact absurd (vb_inj (by decide) (by decide) e).1 (by decide)
    · rcases r' with ⟨rfl, e⟩ | ⟨i', rfl, e⟩ | ⟨t', a', b', rfl, e⟩ | ⟨t', a', b', rfl, e⟩
      · exact absurd (vb_inj (by decide) (by decide) e).1 (by decide)
      · exact absurd (vb_inj (by decide) (by decide) e).1 (by decide)
      · have q := (vb_inj (by decide) (by decide) e).2
        rw [nI_eq (by have := G t a; omega) (by have := G t' a'; omega)] at q
        rw [cu_inj (b.trans b'.symm) q]
      · exact absurd (vb_inj (by decide) (by decide) e).1 (by decide)
    · rcases r' with ⟨rfl, e⟩ | ⟨i', rfl, e⟩ | ⟨t', a', b', rfl, e⟩ | ⟨t', a', b', rfl, e⟩
      · exact absurd (vb_inj (by decide) (by decide) e).1 (by decide)
      · exact absurd (vb_inj (by decide) (by decide) e).1 (by decide)
      · exact absurd (vb_inj (by decide) (by decide) e).1 (by decide)
      · have q := (vb_inj (by decide) (by decide) e).2
        rw [nI_eq (by have := G t a; omega) (by have := G t' a'; omega)] at q
        rw [cu_inj (b.trans b'.symm) q]
/-! a row of writes -/
def up_n (f : Nat → Int64) (b : Nat) (g : Nat → Int64) : Nat → Nat → Int64
  | 0 => f
  | k + 1 => vp_updL (up_n f b g k) (b + k) (g k)
theorem up_in {f g : Nat → Int64} {b : Nat} : ∀ {k j : Nat}, j < k → up_n f b g k (b + j) = g j
  | 0, _, h => absurd h (Nat.not_lt_zero _)
  | k + 1, j, h => by
    show vp_updL (up_n f b g k) (b + k) (g k) (b + j) = g j
    by_cases e : j = k
    · subst e; exact pk_uLs
    · rw [pk_uLn (by omega)]; exact up_in (by omega)
theorem up_out {f g : Nat → Int64} {b i : Nat} : ∀ {k : Nat}, (i < b ∨ b + k ≤ i) → up_n f b g k i = f i
  | 0, _ => rfl
  | k + 1, h => by
    show vp_updL (up_n f b g k) (b + k) (g k) i = f i
    rw [pk_uLn (by omega)]; exact up_out (by omega)
