/-! the program's terms -/
def pg_op (k : Nat) : Nat := if k ≤ 6 then k else if k = 18 ∨ k = 29 then 6 else if k = 28 ∨ k = 31 then 14 else if k = 30 then 23 else if k < 20 then k - 3 else k - 5
def pg_fp (k : Nat) : Nat := if k = 13 then 0 else if k = 26 ∨ k = 30 then 1 else k / 10
def pg_v (k : Nat) : Prop := k ≤ 6 ∨ (10 ≤ k ∧ k ≤ 18) ∨ (20 ≤ k ∧ k ≤ 31)
def pg_k (nc k : Nat) (x : Int32) : Prop :=
  ((k = 3 ∨ k = 10) → ∃ j, j < 6 ∧ x = nI j) ∧ ((k = 4 ∨ k = 11) → ∃ j, j < 4 ∧ x = nI j) ∧ (k = 5 → ∃ j, j < nc ∧ x = nI j) ∧ (k = 13 → x = -1 ∨ ∃ j, j < 6 ∧ x = nI j) ∧ ((k = 6 ∨ k = 17) → ∃ j, j < 6 ∧ j % 3 = 0 ∧ x = nI j) ∧ ((k = 18 ∨ k = 28) → ∃ j, j < 6 ∧ j % 3 = 1 ∧ x = nI j) ∧ ((k = 29 ∨ k = 31) → ∃ j, j < 6 ∧ j % 3 = 2 ∧ x = nI j)
def pg_sm (SZ PN : Nat → Nat) (t : Nat) : Nat → Nat
  | 0 => 0
  | d + 1 => pg_sm SZ PN t d + SZ (PN (3 * t + d))
def pg_T (nc t : Nat) (op tk tp fp kd : Nat → Int32) (KN PN SZ : Nat → Nat) : Prop :=
  pg_v (KN t) ∧ kd t = nI (KN t) ∧ op t = nI (pg_op (KN t)) ∧ fp t = nI (pg_fp (KN t)) ∧ pg_k nc (KN t) (tk t) ∧ (∀ i, i < KN t / 10 → tp (3 * t + i) = nI (PN (3 * t + i)) ∧ PN (3 * t + i) < t) ∧ pg_sm SZ PN t (KN t / 10) + 1 ≤ SZ t ∧ SZ t ≤ 100
def pg_C (nt c : Nat) (cp cf mt : Nat → Int32) : Prop :=
  (cp c = -1 ∨ ∃ p, p < c ∧ cp c = nI p) ∧ (∃ j, j ≤ 4 ∧ cf c = nI j) ∧ ∀ s, s < 6 → (mt (6 * c + s) = -1 ∨ ∃ t, t < nt ∧ mt (6 * c + s) = nI t)
def pg_P (nc nt : Nat) (cp cf mt op tk tp fp kd : Nat → Int32) (KN PN SZ : Nat → Nat) : Prop :=
  nc ≤ 6 ∧ nt ≤ 100 ∧ (∀ c, c < nc → pg_C nt c cp cf mt) ∧ ∀ t, t < nt → pg_T nc t op tk tp fp kd KN PN SZ
def pg_co (KN PN SZ : Nat → Nat) (t d : Nat) : Nat := if KN t = 26 ∧ d = 2 then 4 * SZ t + 1 else 4 * SZ t - 4 * pg_sm SZ PN t d - d
theorem pg_fple {k : Nat} : pg_fp k ≤ k / 10 ∨ pg_fp k = 1 := by
  unfold pg_fp
  split
  · left; omega
  · split
    · right; rfl
    · left; omega
theorem pg_fpl {k : Nat} (h : pg_v k) : pg_fp k ≤ k / 10 ∧ k / 10 ≤ 3 := by
  unfold pg_v at h
  unfold pg_fp
  split
  · omega
  · split <;> omega
theorem pg_sz {nc nt : Nat} {cp cf mt op tk tp fp kd : Nat → Int32} {KN PN SZ : Nat → Nat} (P : pg_P nc nt cp cf mt op tk tp fp kd KN PN SZ) {t : Nat} (ht : t < nt) : 1 ≤ SZ t ∧ SZ t ≤ 100 := by
  have h := (P.2.2.2 t ht).2.2.2.2.2.2
  omega
theorem pg_sd {nc nt : Nat} {cp cf mt op tk tp fp kd : Nat → Int32} {KN PN SZ : Nat → Nat} (P : pg_P nc nt cp cf mt op tk tp fp kd KN PN SZ) {t : Nat} (ht : t < nt) : ∀ d, d ≤ KN t / 10 → d ≤ pg_sm SZ PN t d ∧ pg_sm SZ PN t d ≤ pg_sm SZ PN t (KN t / 10) := by
  have Q := (P.2.2.2 t ht).2.2.2.2.2.1
  have up : ∀ e d, d + e = KN t / 10 → pg_sm SZ PN t d ≤ pg_sm SZ PN t (KN t / 10) := by
    intro e
    induction e with
    | zero => intro d h; rw [← h]; exact Nat.le_refl _
    | succ e ih =>
      intro d h
      have := ih (d + 1) (by omega)
      have q : pg_sm SZ PN t (d + 1) = pg_sm SZ PN t d + SZ (PN (3 * t + d)) := rfl
      omega
  intro d
  induction d with
  | zero => intro h; exact ⟨Nat.zero_le _, Nat.zero_le _⟩
  | succ d ih =>
    intro h
    have a := ih (by omega)
    have q : pg_sm SZ PN t (d + 1) = pg_sm SZ PN t d + SZ (PN (3 * t + d)) := rfl
    have b := pg_sz P (t := PN (3 * t + d)) (by have := (Q d (by omega)).2; omega)
    exact ⟨by omega, up (KN t / 10 - (d + 1)) (d + 1) (by omega)⟩
/-! the ghost stack: (true, t, d) a term whose part d - 1 is under way; (false, a, m) a frame -/
def kl_nx (k d : Nat) : Nat := if k = 26 then 0 else d - 1
def kl_ny (k d : Nat) : Nat := if k = 26 ∨ k = 25 then 0 else d - 1
def kl_q (k d : Nat) : Nat := if k = 25 ∧ d = 2 then 0 else 1
def kl_d (k : Nat) : Nat := if k = 26 then 2 else pg_fp k
def kl_W : List (Bool × Nat × Nat) → Nat
  | [] => 0
  | (true, _, _) :: K => kl_W K + 1
  | (false, _, _) :: K => kl_W K
def kl_F : List (Bool × Nat × Nat) → Nat
  | [] => 0
  | (true, _, _) :: K => kl_F K
  | (false, _, _) :: K => kl_F K + 1
def kl_X (KN : Nat → Nat) : List (Bool × Nat × Nat) → Nat
  | [] => 0
  | (true, t, d) :: K => kl_X KN K + kl_nx (KN t) d
  | (false, _, _) :: K => kl_X KN K
def kl_Y (KN : Nat → Nat) : List (Bool × Nat × Nat) → Nat
  | [] => 0
  | (true, t, d) :: K => kl_Y KN K + kl_ny (KN t) d
  | (false, _, _) :: K => kl_Y KN K
def kl_Q (KN : Nat → Nat) : List (Bool × Nat × Nat) → Nat
  | [] => 0
  | (true, t, d) :: K => kl_Q KN K + kl_q (KN t) d
  | (false, _, _) :: K => kl_Q KN K + 1
def kl_A : List (Bool × Nat × Nat) → Nat
  | [] => 0
  | (true, _, _) :: K => kl_A K
  | (false, a, _) :: _ => a
def kl_L (b : Nat) : List (Bool × Nat × Nat) → Nat
  | [] => 0
  | (true, _, _) :: K => kl_L b K
  | (false, a, m) :: K => if a = b ∧ m = 1 then kl_F K + 1 else kl_L b K
def kl_C (KN PN SZ : Nat → Nat) : List (Bool × Nat × Nat) → Nat
  | [] => 0
  | (true, t, d) :: K => kl_C KN PN SZ K + pg_co KN PN SZ t d
  | (false, _, _) :: K => kl_C KN PN SZ K + 1
def kl_ax (K : List (Bool × Nat × Nat)) (a : Nat) : Int32 := if a = 0 then 0 else if kl_L a K = 0 then -1 else nI (kl_L a K)
def kl_ay (K : List (Bool × Nat × Nat)) (a : Nat) : Int32 := if a = 0 then 0 else if kl_L a K = 0 then 1 else 0
def kl_S (nt na : Nat) (R : Int64 → Int64 → Prop) (KN SZ : Nat → Nat) (fa fw fv wt wd : Nat → Int32) (wv : Nat → Int64) (wa hs : Nat → Int32) (vl : Nat → Int64) : List (Bool × Nat × Nat) → Prop
  | [] => True
  | (true, t, d) :: K => (t < nt ∧ 1 ≤ d ∧ d ≤ kl_d (KN t) ∧ kl_W K + kl_X KN K + SZ t ≤ 100 * (kl_F K + 1)) ∧ wt (kl_W K) = nI t ∧ wd (kl_W K) = nI d ∧ (¬ (KN t = 25 ∧ d = 2) → wa (kl_Q KN K) = nI (1024 * kl_A K + 8 * t + d)) ∧ (∀ j, j < kl_ny (KN t) d → R (wv (kl_X KN K + j)) (vl (kl_Y KN K + j))) ∧ kl_S nt na R KN SZ fa fw fv wt wd wv wa hs vl K
  | (false, a, m) :: K => (a < na ∧ m ≤ 1 ∧ (m = 1 → 1 ≤ a ∧ kl_L a K = 0) ∧ kl_W K + kl_X KN K ≤ 100 * (kl_F K + 1) ∧ kl_F K < 20) ∧ fa (kl_F K + 1) = nI a ∧ fw (kl_F K + 1) = nI (kl_W K) ∧ fv (kl_F K + 1) = nI (kl_X KN K) ∧ wa (kl_Q KN K) = nI (1024 * a + 8 * (126 + m)) ∧ hs (kl_Q KN K) = nI (kl_Y KN K) ∧ kl_S nt na R KN SZ fa fw fv wt wd wv wa hs vl K
section
variable {nt na na' : Nat} {R R' : Int64 → Int64 → Prop} {KN SZ : Nat → Nat} {fa fw fv wt wd fa' fw' fv' wt' wd' : Nat → Int32} {wv wv' : Nat → Int64} {wa hs wa' hs' : Nat → Int32} {vl vl' : Nat → Int64}
theorem kl_cg (hR : ∀ x y, R x y → R' x y) (hn : na ≤ na') : ∀ {K : List (Bool × Nat × Nat)}, (∀ i, i < kl_W K → wt' i = wt i ∧ wd' i = wd i) → (∀ i, 1 ≤ i → i ≤ kl_F K → fa' i = fa i ∧ fw' i = fw i ∧ fv' i = fv i) → (∀ i, i < kl_X KN K → wv' i = wv i) → (∀ i, i < kl_Q KN K → wa' i = wa i ∧ hs' i = hs i) → (∀ i, i < kl_Y KN K → vl' i = vl i) → kl_S nt na R KN SZ fa fw fv wt wd wv wa hs vl K → kl_S nt na' R' KN SZ fa' fw' fv' wt' wd' wv' wa' hs' vl' K
  | [], _, _, _, _, _, _ => True.intro
  | (true, t, d) :: K, h1, h2, h3, h4, h5, S => by
    have e1 : kl_W ((true, t, d) :: K) = kl_W K + 1 := rfl
    have e2 : kl_F ((true, t, d) :: K) = kl_F K := rfl
    have e3 : kl_X KN ((true, t, d) :: K) = kl_X KN K + kl_nx (KN t) d := rfl
    have e4 : kl_Q KN ((true, t, d) :: K) = kl_Q KN K + kl_q (KN t) d := rfl
    have e5 : kl_Y KN ((true, t, d) :: K) = kl_Y KN K + kl_ny (KN t) d := rfl
    rw [e1] at h1
    rw [e2] at h2
    rw [e3] at h3
    rw [e4] at h4
    rw [e5] at h5
    obtain ⟨a, b, c, e, g, S⟩ := S
    refine ⟨a, ?_, ?_, ?_, ?_, kl_cg hR hn (fun i hi => h1 i (by omega)) h2 (fun i hi => h3 i (by omega)) (fun i hi => h4 i (by omega)) (fun i hi => h5 i (by omega)) S⟩
    · rw [(h1 _ (by omega)).1]; exact b
    · rw [(h1 _ (by omega)).2]; exact c
    · intro z
      have : kl_q (KN t) d = 1 := if_neg z
      rw [(h4 _ (by omega)).1]; exact e z
    · intro j hj
      have : kl_ny (KN t) d ≤ kl_nx (KN t) d := by
        unfold kl_ny kl_nx
        split <;> split <;> omega
      rw [h3 _ (by omega), h5 _ (by omega)]; exact hR _ _ (g j hj)
  | (false, a, m) :: K, h1, h2, h3, h4, h5, S => by
    have e1 : kl_W ((false, a, m) :: K) = kl_W K := rfl
    have e2 : kl_F ((false, a, m) :: K) = kl_F K + 1 := rfl
    have e3 : kl_X KN ((false, a, m) :: K) = kl_X KN K := rfl
    have e4 : kl_Q KN ((false, a, m) :: K) = kl_Q KN K + 1 := rfl
    have e5 : kl_Y KN ((false, a, m) :: K) = kl_Y KN K := rfl
    rw [e1] at h1
    rw [e2] at h2
    rw [e3] at h3
    rw [e4] at h4
    rw [e5] at h5
    obtain ⟨⟨a1, a2⟩, b, c, e, g, o, S⟩ := S
    have q := h2 (kl_F K + 1) (by omega) (by omega)
    have q4 := h4 (kl_Q KN K) (by omega)
    refine ⟨⟨by omega, a2⟩, q.1.trans b, q.2.1.trans c, q.2.2.trans e, q4.1.trans g, q4.2.trans o, kl_cg hR hn h1 (fun i hi hj => h2 i hi (by omega)) h3 (fun i hi => h4 i (by omega)) h5 S⟩
theorem kl_fa : ∀ {K : List (Bool × Nat × Nat)}, kl_S nt na R KN SZ fa fw fv wt wd wv wa hs vl K → fa 0 = 0 → fa (kl_F K) = nI (kl_A K)
  | [], _, h => h
  | (true, _, _) :: K, S, h => kl_fa (K := K) S.2.2.2.2.2 h
  | (false, _, _) :: _, S, _ => S.2.1
theorem kl_Ab (h0 : 1 ≤ na) : ∀ {K : List (Bool × Nat × Nat)}, kl_S nt na R KN SZ fa fw fv wt wd wv wa hs vl K → kl_A K < na
  | [], _ => h0
  | (true, _, _) :: K, S => kl_Ab h0 (K := K) S.2.2.2.2.2
  | (false, _, _) :: _, S => S.1.1
theorem kl_fw : ∀ {K : List (Bool × Nat × Nat)}, kl_S nt na R KN SZ fa fw fv wt wd wv wa hs vl K → fw 0 = 0 → ∃ b, b ≤ kl_W K ∧ fw (kl_F K) = nI b
  | [], _, h => ⟨0, Nat.le_refl _, h⟩
  | (true, _, _) :: K, S, h => by
    obtain ⟨b, h1, h2⟩ := kl_fw S.2.2.2.2.2 h
    exact ⟨b, Nat.le_trans h1 (Nat.le_succ _), h2⟩
  | (false, _, _) :: _, S, _ => ⟨_, Nat.le_refl _, S.2.2.1⟩
theorem kl_Fb : ∀ {K : List (Bool × Nat × Nat)}, kl_S nt na R KN SZ fa fw fv wt wd wv wa hs vl K → kl_F K ≤ 20
  | [], _ => Nat.zero_le _
  | (true, _, _) :: K, S => kl_Fb (K := K) S.2.2.2.2.2
  | (false, _, _) :: K, S => by
    have := S.1.2.2.2.2
    show kl_F K + 1 ≤ 20
    omega
theorem kl_b {nc : Nat} {cp cf mt op tk tp fp kd : Nat → Int32} {PN : Nat → Nat} (P : pg_P nc nt cp cf mt op tk tp fp kd KN PN SZ) : ∀ {K : List (Bool × Nat × Nat)}, kl_S nt na R KN SZ fa fw fv wt wd wv wa hs vl K → kl_W K + kl_X KN K + 1 ≤ 100 * (kl_F K + 1)
  | [], _ => by
    show 0 + 0 + 1 ≤ 100 * (0 + 1)
    omega
  | (true, t, d) :: K, S => by
    show kl_W K + 1 + (kl_X KN K + kl_nx (KN t) d) + 1 ≤ 100 * (kl_F K + 1)
    obtain ⟨⟨ht, h1, h2, h3⟩, _⟩ := S
    have T := P.2.2.2 t ht
    have l := pg_fpl T.1
    have hd : d ≤ KN t / 10 := by
      unfold kl_d at h2
      split at h2
      · omega
      · omega
    have s := pg_sd P ht d hd
    have z := T.2.2.2.2.2.2.1
    have : kl_nx (KN t) d ≤ d - 1 := by
      unfold kl_nx
      split <;> omega
    omega
  | (false, _, _) :: K, S => by
    have := S.1.2.2.2.1
    show kl_W K + kl_X KN K + 1 ≤ 100 * (kl_F K + 1 + 1)
    omega
end
theorem kl_Qb (KN : Nat → Nat) : ∀ K : List (Bool × Nat × Nat), kl_Q KN K ≤ kl_W K + kl_F K
  | [] => Nat.le_refl _
  | (true, t, d) :: K => by
    have := kl_Qb KN K
    show kl_Q KN K + kl_q (KN t) d ≤ kl_W K + 1 + kl_F K
    have : kl_q (KN t) d ≤ 1 := by
      unfold kl_q
      split <;> omega
    omega
  | (false, _, _) :: K => by
    have := kl_Qb KN K
    show kl_Q KN K + 1 ≤ kl_W K + (kl_F K + 1)
    omega
theorem kl_Yb (KN : Nat → Nat) : ∀ K : List (Bool × Nat × Nat), kl_Y KN K ≤ kl_X KN K
  | [] => Nat.le_refl _
  | (true, t, d) :: K => by
    have := kl_Yb KN K
    show kl_Y KN K + kl_ny (KN t) d ≤ kl_X KN K + kl_nx (KN t) d
    have : kl_ny (KN t) d ≤ kl_nx (KN t) d := by
      unfold kl_ny kl_nx
      split <;> split <;> omega
    omega
  | (false, _, _) :: K => kl_Yb KN K
theorem kl_Lb (b : Nat) : ∀ K : List (Bool × Nat × Nat), kl_L b K ≤ kl_F K
  | [] => Nat.le_refl _
  | (true, _, _) :: K => kl_Lb b K
  | (false, a, m) :: K => by
    have := kl_Lb b K
    show (if a = b ∧ m = 1 then kl_F K + 1 else kl_L b K) ≤ kl_F K + 1
    split <;> omega
