/-! sourness: both halvings find the greatest number that is sour enough -/
def sq_Q (A R z : Int) : Prop := z ≤ 1000000 ∧ z * z + z * R ≤ 1000 * A
theorem sq_mono {A R x y : Int} (hR : 0 ≤ R) (hx : 0 ≤ x) (hxy : x ≤ y) (h : sq_Q A R y) : sq_Q A R x := by
  obtain ⟨h1, h2⟩ := h
  have a : x * x ≤ y * y := Int.mul_le_mul hxy hxy hx (by omega)
  have b : x * R ≤ y * R := Int.mul_le_mul_of_nonneg_right hxy hR
  exact ⟨by omega, by omega⟩
theorem sq_unique {A R x y : Int} (hR : 0 ≤ R) (hx : 0 ≤ x) (hy : 0 ≤ y) (x1 : sq_Q A R x) (x2 : ¬ sq_Q A R (x + 1)) (y1 : sq_Q A R y) (y2 : ¬ sq_Q A R (y + 1)) : x = y := by
  rcases Int.lt_trichotomy x y with q | q | q
  · exact absurd (sq_mono hR (by omega) (by omega) y1) x2
  · exact q
  · exact absurd (sq_mono hR (by omega) (by omega) x1) y2
def sq_B (gr : Nat → Int64) : Prop := (0 ≤ (gr 2).toInt ∧ (gr 2).toInt ≤ 1000000000000) ∧ (0 ≤ (gr 3).toInt ∧ (gr 3).toInt ≤ 1000000000000)
theorem sq_val {gr : Nat → Int64} (hB : sq_B gr) {y : Int64} (h0 : 0 ≤ y.toInt) (h1 : y.toInt ≤ 1000000) : (0 < lg_cmp ((y * y) + (y * (gr 3))) (1000 * (gr 2))) ↔ ¬ (y.toInt * y.toInt + y.toInt * (gr 3).toInt ≤ 1000 * (gr 2).toInt) := by
  obtain ⟨⟨a0, a1⟩, ⟨b0, b1⟩⟩ := hB
  have m1 : y.toInt * y.toInt ≤ 1000000 * 1000000 := Int.mul_le_mul h1 h1 h0 (by decide)
  have m2 : y.toInt * (gr 3).toInt ≤ 1000000 * 1000000000000 := Int.mul_le_mul h1 b1 b0 (by decide)
  have n1 : 0 ≤ y.toInt * y.toInt := Int.mul_nonneg h0 h0
  have n2 : 0 ≤ y.toInt * (gr 3).toInt := Int.mul_nonneg h0 b0
  have e1 : (y * y).toInt = y.toInt * y.toInt := by rw [l_mul] <;> omega
  have e2 : (y * gr 3).toInt = y.toInt * (gr 3).toInt := by rw [l_mul] <;> omega
  have e3 : (y * y + y * gr 3).toInt = y.toInt * y.toInt + y.toInt * (gr 3).toInt := by rw [l_add] <;> rw [e1, e2] <;> omega
  have e4 : (1000 * gr 2).toInt = 1000 * (gr 2).toInt := by rw [l_mul] <;> rw [t64_1000] <;> omega
  rw [lg_cmp_gt, Int64.lt_iff_toInt_lt, e3, e4]
  omega
theorem isSour_iff {gr : Nat → Int64} (hB : sq_B gr) {y : Int64} (h0 : 0 ≤ y.toInt) : (f_Tank_isSour gr y = 0) ↔ ¬ sq_Q (gr 2).toInt (gr 3).toInt y.toInt := by
  have t6 : (1000000 : Int64).toInt = 1000000 := by decide
  unfold f_Tank_isSour
  by_cases c : 0 < lg_cmp y 1000000
  · rw [if_pos c]
    rw [lg_cmp_gt, Int64.lt_iff_toInt_lt, t6] at c
    exact ⟨fun _ q => by have := q.1; omega, fun _ => rfl⟩
  · rw [if_neg c]
    rw [lg_cmp_gt, Int64.lt_iff_toInt_lt, t6] at c
    have hv := sq_val hB h0 (by omega)
    by_cases d : 0 < lg_cmp ((y * y) + (y * (gr 3))) (1000 * (gr 2))
    · rw [if_pos d]
      exact ⟨fun _ q => hv.mp d q.2, fun _ => rfl⟩
    · rw [if_neg d]
      constructor
      · intro q; exact absurd q (by decide)
      · intro q
        exact absurd ⟨by omega, Classical.not_not.mp (fun z => d (hv.mpr z))⟩ q
theorem sq_shr (k : Nat) (hk : k < 20) : nI (2 ^ (k + 1)) >>> ((1 : Int32) &&& 31) = nI (2 ^ k) := by
  have h : (2 : Nat) ^ (k + 1) < 2 ^ 31 := Nat.pow_lt_pow_right (by decide) (by omega)
  rw [pk_shrN h ((1 : Int32) &&& 31) 1 (by decide)]
  congr 1
  rw [Nat.pow_succ]; omega
theorem sq_pow {k : Nat} (hk : k ≤ 20) : 1 ≤ 2 ^ k ∧ 2 ^ k ≤ 1048576 := ⟨Nat.one_le_two_pow, Nat.pow_le_pow_right (n := 2) (by decide) hk⟩
theorem sq_class {gr : Nat → Int64} (hB : sq_B gr) : ∀ (k n y : Nat), k ≤ 19 → k + 2 ≤ n → y + 2 ^ (k + 1) ≤ 1048576 → sq_Q (gr 2).toInt (gr 3).toInt y → ¬ sq_Q (gr 2).toInt (gr 3).toInt ((y + 2 ^ (k + 1) : Nat) : Int) →
    ∃ z : Nat, z < 1048576 ∧ f_Tank_sourness_L5 gr n (nI y) (nI (2 ^ k)) = nI z ∧ sq_Q (gr 2).toInt (gr 3).toInt z ∧ ¬ sq_Q (gr 2).toInt (gr 3).toInt ((z : Int) + 1) := by
  intro k
  induction k with
  | zero =>
    intro n y _ hn hy h1 h2
    obtain ⟨n, rfl⟩ : ∃ m, n = m + 2 := ⟨n - 2, by omega⟩
    have e1 : ¬ nI (2 ^ 0) ≤ 0 := by decide
    have e2 : nI (2 ^ 0) >>> ((1 : Int32) &&& 31) = 0 := by decide
    have e3 : (0 : Int32) ≤ 0 := by decide
    have ea : nI y + nI (2 ^ 0) = nI (y + 1) := nI_add y 1
    have el : (Int32.toInt64 (nI (y + 1))).toInt = ((y + 1 : Nat) : Int) := by rw [ext_i, nI_toInt (by omega)]
    simp only [f_Tank_sourness_L5, if_neg e1, e2, if_pos e3, ea]
    have hs := isSour_iff hB (y := Int32.toInt64 (nI (y + 1))) (by rw [el]; omega)
    rw [el] at hs
    by_cases c : f_Tank_isSour gr (Int32.toInt64 (nI (y + 1))) = 0
    · rw [if_pos c]
      exact ⟨y, by omega, rfl, h1, hs.mp c⟩
    · rw [if_neg c]
      refine ⟨y + 1, by omega, rfl, Classical.not_not.mp (fun q => c (hs.mpr q)), ?_⟩
      intro q; exact h2 q
  | succ k ih =>
    intro n y hk hn hy h1 h2
    obtain ⟨n, rfl⟩ : ∃ m, n = m + 1 := ⟨n - 1, by omega⟩
    have hp := sq_pow (k := k + 1) (by omega)
    have hp2 : 2 ^ (k + 1 + 1) = 2 ^ (k + 1) + 2 ^ (k + 1) := by rw [Nat.pow_succ]; omega
    have e1 : ¬ nI (2 ^ (k + 1)) ≤ 0 := by
      rw [Int32.le_iff_toInt_le, nI_toInt (by omega), t_0]; omega
    have ea : nI y + nI (2 ^ (k + 1)) = nI (y + 2 ^ (k + 1)) := nI_add y _
    have el : (Int32.toInt64 (nI (y + 2 ^ (k + 1)))).toInt = ((y + 2 ^ (k + 1) : Nat) : Int) := by rw [ext_i, nI_toInt (by omega)]
    simp only [f_Tank_sourness_L5, if_neg e1, sq_shr k (by omega), ea]
    have hs := isSour_iff hB (y := Int32.toInt64 (nI (y + 2 ^ (k + 1)))) (by rw [el]; omega)
    rw [el] at hs
    by_cases c : f_Tank_isSour gr (Int32.toInt64 (nI (y + 2 ^ (k + 1)))) = 0
    · rw [if_pos c]
      exact ih n y (by omega) (by omega) (by omega) h1 (hs.mp c)
    · rw [if_neg c]
      refine ih n (y + 2 ^ (k + 1)) (by omega) (by omega) (by omega) (Classical.not_not.mp (fun q => c (hs.mpr q))) ?_
      rw [show y + 2 ^ (k + 1) + 2 ^ (k + 1) = y + 2 ^ (k + 1 + 1) by omega]
      exact h2
theorem sq_model {gr : Nat → Int64} (hB : sq_B gr) : ∀ (n : Nat) (lo hi : Int64), 0 ≤ lo.toInt → lo.toInt ≤ hi.toInt → hi.toInt ≤ 1000000 → (hi.toInt - lo.toInt).toNat < n → sq_Q (gr 2).toInt (gr 3).toInt lo.toInt → ¬ sq_Q (gr 2).toInt (gr 3).toInt (hi.toInt + 1) →
    ∃ z : Nat, z ≤ 1000000 ∧ f_Mo_acid_L6 gr n lo hi = nI z ∧ sq_Q (gr 2).toInt (gr 3).toInt z ∧ ¬ sq_Q (gr 2).toInt (gr 3).toInt ((z : Int) + 1) := by
  intro n
  induction n with
  | zero => intro lo hi _ _ _ h; exact absurd h (Nat.not_lt_zero _)
  | succ n ih =>
    intro lo hi l0 lh h6 hm q1 q2
    simp only [f_Mo_acid_L6]
    by_cases c : 0 ≤ lg_cmp lo hi
    · rw [if_pos c]
      rw [lg_cmp_ge, Int64.le_iff_toInt_le] at c
      have e : lo.toInt = hi.toInt := by omega
      refine ⟨lo.toInt.toNat, by omega, ?_, ?_, ?_⟩
      · apply Int32.toInt_inj.mp
        rw [nI_toInt (by omega), Int64.toInt_toInt32]
        rw [Int.bmod_eq_of_le (by omega) (by omega)]; omega
      · rw [show ((lo.toInt.toNat : Nat) : Int) = lo.toInt by omega]; exact q1
      · rw [show ((lo.toInt.toNat : Nat) : Int) = hi.toInt by omega]; exact q2
    · rw [if_neg c]
      rw [lg_cmp_ge, Int64.le_iff_toInt_le] at c
      have em := ac_m (lo := lo) (hi := hi) ⟨l0, by omega⟩ ⟨by omega, h6⟩
      have hv := sq_val hB (y := ((lo + hi) + 1) / 2) (by rw [em]; omega) (by rw [em]; omega)
      by_cases d : 0 < lg_cmp (((((lo + hi) + 1) / 2) * (((lo + hi) + 1) / 2)) + ((((lo + hi) + 1) / 2) * (gr 3))) (1000 * (gr 2))
      · rw [if_pos d]
        have e2 : ((((lo + hi) + 1) / 2) - 1).toInt = (lo.toInt + hi.toInt + 1) / 2 - 1 := by rw [l_sub] <;> rw [em, t64_1] <;> omega
        refine ih lo ((((lo + hi) + 1) / 2) - 1) l0 (by rw [e2]; omega) (by rw [e2]; omega) (by rw [e2]; omega) q1 ?_
        rw [show ((((lo + hi) + 1) / 2) - 1).toInt + 1 = (((lo + hi) + 1) / 2).toInt by rw [e2, em]; omega]
        exact fun q => hv.mp d q.2
      · rw [if_neg d]
        refine ih (((lo + hi) + 1) / 2) hi (by rw [em]; omega) (by rw [em]; omega) h6 (by rw [em]; omega) ?_ q2
        exact ⟨by rw [em]; omega, Classical.not_not.mp (fun z => d (hv.mpr z))⟩
theorem eq_acid {gr : Nat → Int64} (hB : sq_B gr) : f_DR_acid gr = f_Mo_acid gr := by
  have q0 : sq_Q (gr 2).toInt (gr 3).toInt ((0 : Nat) : Int) := ⟨by decide, by have := hB.1.1; simp; omega⟩
  obtain ⟨z, z1, e1, z2, z3⟩ := sq_class hB 19 524289 0 (by decide) (by decide) (by decide) q0 (fun q => by have := q.1; simp at this)
  obtain ⟨w, w1, e2, w2, w3⟩ := sq_model hB 1000001 0 1000000 (by decide) (by decide) (by decide) (by decide) (by simpa using q0) (fun q => by have h := q.1; rw [show (1000000 : Int64).toInt = 1000000 by decide] at h; omega)
  unfold f_DR_acid f_Tank_sourness f_Mo_acid
  rw [nI_0] at e1
  rw [show nI (2 ^ 19) = 524288 by decide] at e1
  simp only [e1, e2]
  have : z = w := by
    have := sq_unique hB.2.1 (by omega) (by omega) z2 z3 w2 w3
    omega
  rw [this]
/-! the first minute above: peaks halved, and acids one by one -/
def PkOk (N : Nat) (pk ac : Nat → Int64) : Prop := ∀ j, j < N → (∀ i, i ≤ j → (ac i).toInt ≤ (pk j).toInt) ∧ ∃ i, i ≤ j ∧ pk j = ac i
theorem pk_mono {N : Nat} {pk ac : Nat → Int64} (h : PkOk N pk ac) {i j : Nat} (hij : i ≤ j) (hj : j < N) : (pk i).toInt ≤ (pk j).toInt := by
  obtain ⟨k, hk, e⟩ := (h i (by omega)).2
  rw [e]
  exact (h j hj).1 k (by omega)
def fa_T (N : Nat) (pk : Nat → Int64) (p : Int64) (x : Nat) : Prop := x ≤ N ∧ ∀ j, j < x → (pk j).toInt ≤ p.toInt
theorem fa_test {N : Nat} {pk ac : Nat → Int64} (h : PkOk N pk ac) (p : Int64) {x : Nat} (hx : 1 ≤ x) : fa_T N pk p x ↔ x ≤ N ∧ (pk (x - 1)).toInt ≤ p.toInt := by
  constructor
  · intro q; exact ⟨q.1, q.2 (x - 1) (by omega)⟩
  · intro q; exact ⟨q.1, fun j hj => Int.le_trans (pk_mono h (by omega) (by omega)) q.2⟩
theorem fa_class {N : Nat} (hN : N ≤ 10000) {pk ac : Nat → Int64} (h : PkOk N pk ac) (p : Int64) : ∀ (k n y : Nat), k ≤ 13 → k + 2 ≤ n → fa_T N pk p y → ¬ fa_T N pk p (y + 2 ^ (k + 1)) →
    ∃ z : Nat, fa_T N pk p z ∧ ¬ fa_T N pk p (z + 1) ∧ f_AcidPeaks_firstAbove_L7 (nI N) pk p n (nI y) (nI (2 ^ k)) = if nI N ≤ nI z then (-1) else nI z := by
  have step : ∀ (y d : Nat), 1 ≤ d → d ≤ 16384 → y ≤ N → (fa_T N pk p (y + d) → ¬ nI N < nI (y + d) ∧ ¬ 0 < lg_cmp (pk (Int32.toNatClampNeg (nI (y + d) - 1))) p) ∧ (¬ fa_T N pk p (y + d) → ¬ nI N < nI (y + d) → 0 < lg_cmp (pk (Int32.toNatClampNeg (nI (y + d) - 1))) p) := by
    intro y d d1 d2 hy
    have e : Int32.toNatClampNeg (nI (y + d) - 1) = y + d - 1 := by
      rw [show (1 : Int32) = nI 1 from rfl, pk_sub (by omega), nI_clamp (by omega)]
    have ht := fa_test h p (x := y + d) (by omega)
    rw [e]
    constructor
    · intro q
      have q2 := ht.mp q
      refine ⟨nI_nlt q2.1 (by omega), ?_⟩
      rw [lg_cmp_gt, Int64.lt_iff_toInt_lt]; have := q2.2; omega
    · intro q c
      have hle : y + d ≤ N := by
        rcases Nat.lt_or_ge N (y + d) with z | z
        · exact absurd (nI_lt z (by omega)) c
        · exact z
      rw [lg_cmp_gt, Int64.lt_iff_toInt_lt]
      rcases Int.lt_or_le p.toInt (pk (y + d - 1)).toInt with z | z
      · exact z
      · exact absurd (ht.mpr ⟨hle, z⟩) q
  intro k
  induction k with
  | zero =>
    intro n y _ hn h1 h2
    obtain ⟨n, rfl⟩ : ∃ m, n = m + 2 := ⟨n - 2, by omega⟩
    have e1 : ¬ nI (2 ^ 0) ≤ 0 := by decide
    have e2 : nI (2 ^ 0) >>> ((1 : Int32) &&& 31) = 0 := by decide
    have e3 : (0 : Int32) ≤ 0 := by decide
    have ea : nI y + nI (2 ^ 0) = nI (y + 1) := nI_add y 1
    have hy := h1.1
    have st := step y 1 (by decide) (by decide) hy
    simp only [f_AcidPeaks_firstAbove_L7, if_neg e1, e2, if_pos e3, ea]
    by_cases t : fa_T N pk p (y + 1)
    · obtain ⟨c1, c2⟩ := st.1 t
      rw [if_neg c1, if_neg c2]
      exact ⟨y + 1, t, h2, rfl⟩
    · by_cases c1 : nI N < nI (y + 1)
      · rw [if_pos c1]; exact ⟨y, h1, t, rfl⟩
      · rw [if_neg c1, if_pos (st.2 t c1)]; exact ⟨y, h1, t, rfl⟩
  | succ k ih =>
    intro n y hk hn h1 h2
    obtain ⟨n, rfl⟩ : ∃ m, n = m + 1 := ⟨n - 1, by omega⟩
    have hp : 1 ≤ 2 ^ (k + 1) ∧ 2 ^ (k + 1) ≤ 16384 := ⟨Nat.one_le_two_pow, Nat.pow_le_pow_right (n := 2) (by decide) (show k + 1 ≤ 14 by omega)⟩
    have hp2 : 2 ^ (k + 1 + 1) = 2 ^ (k + 1) + 2 ^ (k + 1) := by rw [Nat.pow_succ]; omega
    have e1 : ¬ nI (2 ^ (k + 1)) ≤ 0 := by
      rw [Int32.le_iff_toInt_le, nI_toInt (by omega), t_0]; omega
    have ea : nI y + nI (2 ^ (k + 1)) = nI (y + 2 ^ (k + 1)) := nI_add y _
    have hy := h1.1
    have st := step y (2 ^ (k + 1)) hp.1 hp.2 hy
    simp only [f_AcidPeaks_firstAbove_L7, if_neg e1, sq_shr k (by omega), ea]
    by_cases t : fa_T N pk p (y + 2 ^ (k + 1))
    · obtain ⟨c1, c2⟩ := st.1 t
      rw [if_neg c1, if_neg c2]
      refine ih n (y + 2 ^ (k + 1)) (by omega) (by omega) t ?_
      rw [show y + 2 ^ (k + 1) + 2 ^ (k + 1) = y + 2 ^ (k + 1 + 1) by omega]; exact h2
    · by_cases c1 : nI N < nI (y + 2 ^ (k + 1))
      · rw [if_pos c1]; exact ih n y (by omega) (by omega) h1 t
      · rw [if_neg c1, if_pos (st.2 t c1)]; exact ih n y (by omega) (by omega) h1 t
theorem so_model {N : Nat} (hN : N ≤ 10000) (ac : Nat → Int64) {p : Int64} (hp : ¬ lg_cmp p 0 < 0) {z : Nat} (hz : z ≤ N) (h1 : ∀ i, i < z → (ac i).toInt ≤ p.toInt) (h2 : z < N → p.toInt < (ac z).toInt) :
    ∀ (n i : Nat), i ≤ z → N - i < n → f_Mo_sour_L2 (nI N) ac p n (nI i) = if nI N ≤ nI z then (-1) else nI z := by
  intro n
  induction n with
  | zero => intro i _ h; exact absurd h (Nat.not_lt_zero _)
  | succ n ih =>
    intro i hi hn
    simp only [f_Mo_sour_L2]
    by_cases c : i = N
    · have : z = N := by omega
      subst c; subst this
      rw [if_pos (nI_le (Nat.le_refl _) (by omega)), if_pos (nI_le (Nat.le_refl _) (by omega))]
    · rw [if_neg (nI_ge (by omega) (by omega)), if_neg hp, nI_clamp (by omega)]
      by_cases d : i = z
      · subst d
        have q : ¬ lg_cmp (ac i) p ≤ 0 := by
          rw [lg_cmp_le, Int64.le_iff_toInt_le]; have := h2 (by omega); omega
        rw [if_neg q, if_neg (nI_ge (by omega) (by omega))]
      · have q : lg_cmp (ac i) p ≤ 0 := by
          rw [lg_cmp_le, Int64.le_iff_toInt_le]; exact h1 i (by omega)
        rw [if_pos q, nI_1]
        exact ih (i + 1) (by omega) (by omega)
theorem eq_sour {N : Nat} (hN : N ≤ 10000) {pk ac : Nat → Int64} (h : PkOk N pk ac) (p : Int64) : f_DR_sour (nI N) pk p = f_Mo_sour (nI N) ac p := by
  unfold f_DR_sour f_Mo_sour f_AcidPeaks_firstAbove
  by_cases c : 0 ≤ lg_cmp p 0
  · have c2 : ¬ lg_cmp p 0 < 0 := by
      rw [Int32.lt_iff_toInt_lt]; rw [Int32.le_iff_toInt_le] at c; omega
    rw [if_pos c]
    obtain ⟨z, t1, t2, e⟩ := fa_class hN h p 13 8193 0 (by decide) (by decide) ⟨Nat.zero_le _, fun j hj => absurd hj (Nat.not_lt_zero _)⟩ (fun q => by have := q.1; simp at this; omega)
    rw [show nI (2 ^ 13) = 8192 by decide, nI_0] at e
    have hm := so_model hN ac c2 (z := z) t1.1 (fun i hi => Int.le_trans ((h i (by have := t1.1; omega)).1 i (Nat.le_refl _)) (t1.2 i hi)) (fun hz => by
      rcases Int.lt_or_le p.toInt (pk z).toInt with q | q
      · obtain ⟨i, hi, e2⟩ := (h z hz).2
        rcases Nat.lt_or_ge i z with w | w
        · have a := t1.2 i w
          have b := (h i (by omega)).1 i (Nat.le_refl _)
          rw [e2] at q; omega
        · have : i = z := by omega
          subst this; rw [← e2]; exact q
      · exact absurd ⟨by omega, fun j hj => by
          rcases Nat.lt_or_ge j z with w | w
          · exact t1.2 j w
          · have : j = z := by omega
            subst this; exact q⟩ t2) 10001 0 (Nat.zero_le _) (by omega)
    rw [nI_0] at hm
    simp only [e, hm]
  · rw [if_neg c]
    have c2 : lg_cmp p 0 < 0 := by
      rw [Int32.lt_iff_toInt_lt]; rw [Int32.le_iff_toInt_le] at c; omega
    show -1 = f_Mo_sour_L2 (nI N) ac p (10000 + 1) 0
    rw [f_Mo_sour_L2, if_pos c2, ite_self]
