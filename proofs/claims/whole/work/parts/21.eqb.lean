/-! the order of the users, and the gas of a minute -/
def ok_K (rk od : Nat → Int32) (j : Nat) : Nat := (rk (od j).toNatClampNeg).toNatClampNeg * 8 + (od j).toNatClampNeg
/-- N users, their ranks 0 .. 9; the order's first N places hold them, by ranks, then by numbers -/
def OrdOk (N : Nat) (us : Int32) (rk od : Nat → Int32) : Prop :=
  us = nI N ∧ N ≤ 4 ∧ (∀ u, u < N → 0 ≤ (rk u).toInt ∧ (rk u).toInt ≤ 9) ∧ (∀ i, i < N → ∃ u, u < N ∧ od i = nI u) ∧ (∀ i j, i < j → j < N → ok_K rk od i < ok_K rk od j) ∧ (∀ u, u < N → ∃ i, i < N ∧ od i = nI u)
def gas_S : Type := Int64 × Int64 × (Nat → Int64)
def gas_G (nd od : Nat → Int32) : Nat → Nat → Int64 × Int64 × (Nat → Int64) → Int64 × Int64 × (Nat → Int64)
  | 0, _, s => s
  | k + 1, i, s => gas_G nd od k (i + 1) (f_GasStore_giveTo s.1 s.2.1 nd s.2.2 (od i))
def gas_fin (mo : Int32) (fl : Int64) (s : Int64 × Int64 × (Nat → Int64)) : Int64 × Int64 × Int64 × (Nat → Int64) :=
  (s.1 - (if (s.1 - (Int32.toInt64 mo)) < 0 then 0 else (s.1 - (Int32.toInt64 mo))), s.2.1, fl + (if (s.1 - (Int32.toInt64 mo)) < 0 then 0 else (s.1 - (Int32.toInt64 mo))), s.2.2)
theorem gas_class (N : Nat) (mo : Int32) (fl : Int64) (nd od : Nat → Int32) (hN : N ≤ 4) : ∀ (n i : Nat) (he gi : Int64) (gv : Nat → Int64), i ≤ N → N - i < n →
    f_GasStore_passGas_L12 (nI N) mo fl nd od n (nI i) he gi gv = gas_fin mo fl (gas_G nd od (N - i) i (he, gi, gv)) := by
  intro n
  induction n with
  | zero => intro i he gi gv _ h; exact absurd h (Nat.not_lt_zero _)
  | succ n ih =>
    intro i he gi gv hi hn
    simp only [f_GasStore_passGas_L12]
    by_cases c : i = N
    · subst c
      rw [if_pos (nI_le (Nat.le_refl _) (by omega)), Nat.sub_self]
      rfl
    · rw [if_neg (nI_ge (by omega) (by omega)), nI_clamp (by omega), nI_1]
      obtain ⟨k, hk⟩ : ∃ k, N - i = k + 1 := ⟨N - i - 1, by omega⟩
      rw [hk]
      have h2 := ih (i + 1) (f_GasStore_giveTo he gi nd gv (od i)).1 (f_GasStore_giveTo he gi nd gv (od i)).2.1 (f_GasStore_giveTo he gi nd gv (od i)).2.2 (by omega) (by omega)
      rw [show N - (i + 1) = k by omega] at h2
      exact h2
theorem upd_self (f : Nat → Int64) (k : Nat) : vp_updL f k (f k) = f := by
  funext j
  unfold vp_updL
  split
  · rename_i h; rw [h]
  · rfl
def gas_ptr (rk od : Nat → Int32) (N r u i : Nat) : Prop := i ≤ N ∧ (∀ j, j < i → ok_K rk od j < r * 8 + u) ∧ (∀ j, i ≤ j → j < N → r * 8 + u ≤ ok_K rk od j)
/-- one user of the reference's inner loop: either it is the next of the order, or it has another rank -/
theorem gas_step {N : Nat} {us : Int32} {rk od : Nat → Int32} (ho : OrdOk N us rk od) {r u i : Nat} (hu : u < N) (hp : gas_ptr rk od N r u i) :
    ((rk u).toInt = (r : Int) → i < N ∧ od i = nI u ∧ gas_ptr rk od N r (u + 1) (i + 1)) ∧ (¬ (rk u).toInt = (r : Int) → gas_ptr rk od N r (u + 1) i) := by
  obtain ⟨-, hN, hr, hin, hs, hsur⟩ := ho
  obtain ⟨hi, h1, h2⟩ := hp
  obtain ⟨j0, hj0, e0⟩ := hsur u hu
  have hcl : (nI u).toNatClampNeg = u := nI_clamp (by omega)
  have hK0 : ok_K rk od j0 = (rk u).toNatClampNeg * 8 + u := by unfold ok_K; rw [e0, hcl]
  have hru := hr u hu
  have hrk : (rk u).toNatClampNeg = (rk u).toInt.toNat := rfl
  constructor
  · intro q
    have hq : (rk u).toNatClampNeg = r := by rw [hrk, q]; rfl
    rw [hq] at hK0
    have hji : i ≤ j0 := by
      rcases Nat.lt_or_ge j0 i with z | z
      · have := h1 j0 z; omega
      · exact z
    have hij : i = j0 := by
      rcases Nat.lt_or_ge i j0 with z | z
      · have a := hs i j0 z hj0
        have b := h2 i (Nat.le_refl _) (by omega)
        omega
      · omega
    subst hij
    refine ⟨hj0, e0, by omega, fun j hj => ?_, fun j h3 h4 => ?_⟩
    · rcases Nat.lt_or_ge j i with z | z
      · have := h1 j z; omega
      · have : j = i := by omega
        subst this; omega
    · have := hs i j (by omega) h4; omega
  · intro q
    have hq : ¬ (rk u).toNatClampNeg = r := fun z => q (by rw [← z, hrk]; omega)
    refine ⟨hi, fun j hj => ?_, fun j h3 h4 => ?_⟩
    · have := h1 j hj; omega
    · have a := h2 j h3 h4
      rcases Nat.lt_or_ge (r * 8 + u) (ok_K rk od j) with z | z
      · omega
      · have e : ok_K rk od j = r * 8 + u := by omega
        obtain ⟨v, hv, ev⟩ := hin j h4
        have hcv : (nI v).toNatClampNeg = v := nI_clamp (by omega)
        unfold ok_K at e
        rw [ev, hcv] at e
        have hrv := hr v hv
        have : v = u ∧ (rk v).toNatClampNeg = r := by omega
        obtain ⟨rfl, z2⟩ := this
        exact absurd z2 hq
theorem give_eq (he gi : Int64) (nd : Nat → Int32) (gv : Nat → Int64) (u : Int32) :
    (if 0 ≤ lg_cmp (Int32.toInt64 (nd u.toNatClampNeg)) he then (he - he, gi + he, vp_updL gv u.toNatClampNeg ((gv u.toNatClampNeg) + he)) else (he - Int32.toInt64 (nd u.toNatClampNeg), gi + Int32.toInt64 (nd u.toNatClampNeg), vp_updL gv u.toNatClampNeg ((gv u.toNatClampNeg) + Int32.toInt64 (nd u.toNatClampNeg)))) = f_GasStore_giveTo he gi nd gv u := by
  unfold f_GasStore_giveTo
  by_cases c : he < Int32.toInt64 (nd u.toNatClampNeg)
  · have h : 0 ≤ lg_cmp (Int32.toInt64 (nd u.toNatClampNeg)) he := by rw [lg_cmp_ge, Int64.le_iff_toInt_le]; rw [Int64.lt_iff_toInt_lt] at c; omega
    simp only [if_pos c, if_pos h]
  · simp only [if_neg c]
    by_cases h : 0 ≤ lg_cmp (Int32.toInt64 (nd u.toNatClampNeg)) he
    · have e : Int32.toInt64 (nd u.toNatClampNeg) = he := by
        rw [lg_cmp_ge, Int64.le_iff_toInt_le] at h; rw [Int64.lt_iff_toInt_lt] at c
        exact Int64.toInt_inj.mp (by omega)
      rw [if_pos h, e]
    · simp only [if_neg h]
theorem gas_inner {N : Nat} {us : Int32} {rk od : Nat → Int32} (ho : OrdOk N us rk od) (nd : Nat → Int32) (Mne : Int32) (k168 : Int32 → Int64 → Int64 → (Nat → Int64) → Int32 × Int64 × Int64 × Int64 × Int64 × Int64 × (Nat → Int64) × (Nat → Int64) × (Nat → Int64)) {r : Nat} (hr9 : r ≤ 9) :
    ∀ (n u i : Nat) (he gi : Int64) (gv : Nat → Int64), u ≤ N → N - u < n → gas_ptr rk od N r u i →
      ∃ (i' : Nat) (s' : Int64 × Int64 × (Nat → Int64)), f_Mo_minute_L178 k168 (nI N) Mne rk nd (nI r) n (nI u) gi he gv = k168 (nI (r + 1)) s'.2.1 s'.1 s'.2.2 ∧ gas_G nd od (N - i) i (he, gi, gv) = gas_G nd od (N - i') i' s' ∧ gas_ptr rk od N (r + 1) 0 i' := by
  obtain ⟨h0, hN, hr, hin, hs, hsur⟩ := id ho
  intro n
  induction n with
  | zero => intro u i he gi gv _ h; exact absurd h (Nat.not_lt_zero _)
  | succ n ih =>
    intro u i he gi gv hu hn hp
    simp only [f_Mo_minute_L178]
    by_cases c : u = N
    · subst c
      rw [if_pos (nI_le (Nat.le_refl _) (by omega)), nI_1]
      refine ⟨i, (he, gi, gv), rfl, rfl, hp.1, fun j hj => ?_, fun j h3 h4 => ?_⟩
      · have := hp.2.1 j hj; omega
      · have a := hp.2.2 j h3 h4
        obtain ⟨v, hv, ev⟩ := hin j h4
        have hcv : (nI v).toNatClampNeg = v := nI_clamp (by omega)
        unfold ok_K at a ⊢
        rw [ev, hcv] at a ⊢
        omega
    · have hlt : u < N := by omega
      rw [if_neg (nI_ge hlt (by omega)), nI_clamp (by omega), nI_1]
      have hst := gas_step ho hlt hp
      by_cases q : rk u = nI r
      · have q2 : (rk u).toInt = (r : Int) := by rw [q, nI_toInt (by omega)]
        obtain ⟨hi, hod, hp2⟩ := hst.1 q2
        rw [if_pos q]
        obtain ⟨k, hk⟩ : ∃ k, N - i = k + 1 := ⟨N - i - 1, by omega⟩
        have hg : gas_G nd od (N - i) i (he, gi, gv) = gas_G nd od (N - (i + 1)) (i + 1) (f_GasStore_giveTo he gi nd gv (nI u)) := by
          rw [hk, show N - (i + 1) = k by omega, ← hod]; rfl
        have ge := give_eq he gi nd gv (nI u)
        rw [nI_clamp (by omega)] at ge
        by_cases h : 0 ≤ lg_cmp (Int32.toInt64 (nd u)) he
        · rw [if_pos h] at ge ⊢
          obtain ⟨i', s', e1, e2, e3⟩ := ih (u + 1) (i + 1) (he - he) (gi + he) (vp_updL gv u (gv u + he)) (by omega) (by omega) hp2
          exact ⟨i', s', e1, by rw [hg, ← ge]; exact e2, e3⟩
        · rw [if_neg h] at ge ⊢
          obtain ⟨i', s', e1, e2, e3⟩ := ih (u + 1) (i + 1) (he - Int32.toInt64 (nd u)) (gi + Int32.toInt64 (nd u)) (vp_updL gv u (gv u + Int32.toInt64 (nd u))) (by omega) (by omega) hp2
          exact ⟨i', s', e1, by rw [hg, ← ge]; exact e2, e3⟩
      · have q2 : ¬ (rk u).toInt = (r : Int) := fun z => q (Int32.toInt_inj.mp (by rw [z, nI_toInt (by omega)]))
        rw [if_neg q, Int64.add_zero, Int64.sub_zero, Int64.add_zero, upd_self]
        exact ih (u + 1) i he gi gv (by omega) (by omega) (hst.2 q2)
def mo_fin (Mro : Int64) (Mne : Int32) (Mga Mfl : Int64) (Mac : Nat → Int64) (Mca2 : Int64) (Mpa2 : Nat → Int64) (r83 r91 r99 : Int64) (s : Int64 × Int64 × (Nat → Int64)) : Int32 × Int64 × Int64 × Int64 × Int64 × Int64 × (Nat → Int64) × (Nat → Int64) × (Nat → Int64) :=
  f_Mo_minute_L168 Mro 0 Mne Mga Mfl (fun _ => 0) (fun _ => 0) Mac Mca2 Mpa2 r83 r91 r99 1 10 s.2.1 s.1 s.2.2
theorem gas_outer {N : Nat} {us : Int32} {rk od : Nat → Int32} (ho : OrdOk N us rk od) (nd : Nat → Int32) (Mro : Int64) (Mne : Int32) (Mga Mfl : Int64) (Mac : Nat → Int64) (Mca2 : Int64) (Mpa2 : Nat → Int64) (r83 r91 r99 : Int64) :
    ∀ (n r i : Nat) (he gi : Int64) (gv : Nat → Int64), r ≤ 10 → 10 - r < n → gas_ptr rk od N r 0 i →
      f_Mo_minute_L168 Mro (nI N) Mne Mga Mfl rk nd Mac Mca2 Mpa2 r83 r91 r99 n (nI r) gi he gv = mo_fin Mro Mne Mga Mfl Mac Mca2 Mpa2 r83 r91 r99 (gas_G nd od (N - i) i (he, gi, gv)) := by
  obtain ⟨h0, hN, hr, hin, hs, hsur⟩ := id ho
  intro n
  induction n with
  | zero => intro r i he gi gv _ h; exact absurd h (Nat.not_lt_zero _)
  | succ n ih =>
    intro r i he gi gv hr10 hn hp
    by_cases c : r = 10
    · subst c
      have hiN : i = N := by
        rcases Nat.lt_or_ge i N with z | z
        · have a := hp.2.2 i (Nat.le_refl _) z
          obtain ⟨v, hv, ev⟩ := hin i z
          have hcv : (nI v).toNatClampNeg = v := nI_clamp (by omega)
          unfold ok_K at a
          rw [ev, hcv] at a
          have hrv := hr v hv
          have : (rk v).toNatClampNeg = (rk v).toInt.toNat := rfl
          omega
        · have := hp.1; omega
      subst hiN
      rw [Nat.sub_self]
      have c9 : (9 : Int32) < nI 10 := by decide
      unfold mo_fin
      simp only [f_Mo_minute_L168, gas_G]
      rw [if_pos c9, if_pos (show (9 : Int32) < 10 by decide)]
      rfl
    · have c9 : ¬ (9 : Int32) < nI r := by
        rw [Int32.lt_iff_toInt_lt, nI_toInt (by omega), t_9]; omega
      simp only [f_Mo_minute_L168]
      rw [if_neg c9]
      obtain ⟨i', s', e1, e2, e3⟩ := gas_inner ho nd Mne (f_Mo_minute_L168 Mro (nI N) Mne Mga Mfl rk nd Mac Mca2 Mpa2 r83 r91 r99 n) (r := r) (by omega) 5 0 i he gi gv (by omega) (by omega) hp
      rw [nI_0] at e1
      rw [e1, e2]
      exact ih (r + 1) i' s'.1 s'.2.1 s'.2.2 (by omega) (by omega) e3
theorem gas_ptr0 (rk od : Nat → Int32) (N : Nat) : gas_ptr rk od N 0 0 0 := ⟨Nat.zero_le _, fun j h => absurd h (Nat.not_lt_zero _), fun j _ _ => by omega⟩
/-- what is flared -/
theorem fin_eq {mo : Int32} (fl : Int64) (s : Int64 × Int64 × (Nat → Int64)) (h0 : 0 ≤ s.1.toInt) (h1 : s.1.toInt ≤ 1000000000000000) (hm : 0 ≤ mo.toInt) (Mne : Int32) (Mga : Int64) (Mac : Nat → Int64) (Mca2 : Int64) (Mpa2 : Nat → Int64) (r83 r91 r99 : Int64) :
    mo_fin (Int32.toInt64 mo) Mne Mga fl Mac Mca2 Mpa2 r83 r91 r99 s = (Mne + 1, Mca2, Mga + r99, (gas_fin mo fl s).2.1, (gas_fin mo fl s).2.2.1, (gas_fin mo fl s).1, vp_updL (vp_updL (vp_updL Mpa2 0 ((Mpa2 0) - r83)) 1 (((vp_updL Mpa2 0 ((Mpa2 0) - r83)) 1) + (r83 - r91))) 2 (((vp_updL (vp_updL Mpa2 0 ((Mpa2 0) - r83)) 1 (((vp_updL Mpa2 0 ((Mpa2 0) - r83)) 1) + (r83 - r91))) 2) + (r91 - r99)), (gas_fin mo fl s).2.2.2, vp_updL Mac (Int32.toNatClampNeg Mne) ((vp_updL (vp_updL (vp_updL Mpa2 0 ((Mpa2 0) - r83)) 1 (((vp_updL Mpa2 0 ((Mpa2 0) - r83)) 1) + (r83 - r91))) 2 (((vp_updL (vp_updL Mpa2 0 ((Mpa2 0) - r83)) 1 (((vp_updL Mpa2 0 ((Mpa2 0) - r83)) 1) + (r83 - r91))) 2) + (r91 - r99))) 2)) := by
  have hmh := i_hi mo
  have e : (s.1 - Int32.toInt64 mo).toInt = s.1.toInt - mo.toInt := by rw [l_sub] <;> rw [ext_i] <;> omega
  unfold mo_fin gas_fin
  simp only [f_Mo_minute_L168]
  rw [if_pos (show (9 : Int32) < 10 by decide)]
  by_cases c : lg_cmp s.1 (Int32.toInt64 mo) ≤ 0
  · rw [if_pos c]
    rw [lg_cmp_le, Int64.le_iff_toInt_le, ext_i] at c
    have z : (if s.1 - Int32.toInt64 mo < 0 then (0 : Int64) else s.1 - Int32.toInt64 mo) = 0 := by
      split
      · rfl
      · rename_i q
        rw [Int64.lt_iff_toInt_lt, e, t64_0] at q
        exact Int64.toInt_inj.mp (by rw [e, t64_0]; omega)
    rw [z]
  · rw [if_neg c]
    rw [lg_cmp_le, Int64.le_iff_toInt_le, ext_i] at c
    have z : ¬ s.1 - Int32.toInt64 mo < 0 := by rw [Int64.lt_iff_toInt_lt, e, t64_0]; omega
    rw [if_neg z]
