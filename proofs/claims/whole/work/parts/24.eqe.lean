/-! a new user takes its place in the order -/
theorem updI_self (f : Nat → Int32) (k : Nat) (x : Int32) : upd f k x k = x := by simp [upd]
theorem updI_ne (f : Nat → Int32) {k j : Nat} (x : Int32) (h : j ≠ k) : upd f k x j = f j := by simp [upd, h]
theorem ins_loop {N : Nat} (hN : N < 4) {us : Int32} {rk od : Nat → Int32} (ho : OrdOk N us rk od) (nd : Nat → Int32) (p1 p2 : Int32) :
    ∀ (n q : Nat) (od2 : Nat → Int32), q ≤ N → q < n → (∀ j, j < q → od2 j = od j) → (∀ j, q < j → j ≤ N → od2 j = od (j - 1)) → (∀ j, q ≤ j → j < N → p1.toInt < (rk (od j).toNatClampNeg).toInt) → (∀ i, i < 4 → vp_in (od2 i) 4) →
      ∃ (od' : Nat → Int32) (q' : Nat), (∀ i, i < 4 → vp_in (od' i) 4) ∧ f_GasStore_addUser_L32 (nI N) rk nd p1 p2 n (nI q) od2 = (nI N, nI N + 1, upd rk N p1, upd nd N p2, od') ∧ q' ≤ N ∧ (∀ j, j < q' → od' j = od j) ∧ od' q' = nI N ∧ (∀ j, q' < j → j ≤ N → od' j = od (j - 1)) ∧ (∀ j, q' ≤ j → j < N → p1.toInt < (rk (od j).toNatClampNeg).toInt) ∧ (q' = 0 ∨ (rk (od (q' - 1)).toNatClampNeg).toInt ≤ p1.toInt) := by
  obtain ⟨h0, hN4, hr, hin, hs, hsur⟩ := id ho
  have hNc : (nI N).toNatClampNeg = N := nI_clamp (by omega)
  intro n
  induction n with
  | zero => intro q od2 _ h; exact absurd h (Nat.not_lt_zero _)
  | succ n ih =>
    intro q od2 hq hn h1 h2 h3 h4
    have hvN : vp_in (nI N) 4 := vp_in_nI hN (by decide)
    have hqc : (nI q).toNatClampNeg = q := nI_clamp (by omega)
    have fin : ∀ od', od' = upd od2 q (nI N) → (∀ j, j < q → od' j = od j) ∧ od' q = nI N ∧ (∀ j, q < j → j ≤ N → od' j = od (j - 1)) := fun od' e => by
      subst e
      exact ⟨fun j hj => by rw [updI_ne _ _ (by omega)]; exact h1 j hj, updI_self _ _ _, fun j hj hj2 => by rw [updI_ne _ _ (by omega)]; exact h2 j hj hj2⟩
    rw [f_GasStore_addUser_L32]
    simp only [hNc, hqc]
    by_cases z : q = 0
    · subst z
      rw [if_pos (show nI 0 ≤ 0 by decide)]
      obtain ⟨f1, f2, f3⟩ := fin _ rfl
      exact ⟨_, 0, in_upd h4 hvN, rfl, hq, f1, f2, f3, h3, Or.inl rfl⟩
    · have c : ¬ nI q ≤ 0 := nI_nle (by omega) (by omega)
      have em : (nI q - 1).toNatClampNeg = q - 1 := by rw [show (1 : Int32) = nI 1 from rfl, pk_sub (by omega), nI_clamp (by omega)]
      have ep : nI q + (-1) = nI (q - 1) := sb_m1 (by omega)
      rw [if_neg c, em, ep, h1 (q - 1) (by omega)]
      obtain ⟨u, hu, eu⟩ := hin (q - 1) (by omega)
      have huc : (od (q - 1)).toNatClampNeg = u := by rw [eu, nI_clamp (by omega)]
      rw [huc, updI_ne rk p1 (show u ≠ N by omega)]
      by_cases d : rk u ≤ p1
      · rw [if_pos d]
        obtain ⟨f1, f2, f3⟩ := fin _ rfl
        refine ⟨_, q, in_upd h4 hvN, rfl, hq, f1, f2, f3, h3, Or.inr ?_⟩
        rw [huc, ← Int32.le_iff_toInt_le]; exact d
      · rw [if_neg d]
        refine ih (q - 1) _ (by omega) (by omega) (fun j hj => ?_) (fun j hj hj2 => ?_) (fun j hj hj2 => ?_) (in_upd h4 (by rw [eu]; exact vp_in_nI (by omega) (by decide)))
        · rw [updI_ne _ _ (by omega)]; exact h1 j (by omega)
        · by_cases y : j = q
          · subst y; rw [updI_self]
          · rw [updI_ne _ _ y]; exact h2 j (by omega) hj2
        · rcases Nat.lt_or_ge j q with y | y
          · have : j = q - 1 := by omega
            subst this
            rw [huc]; rw [Int32.le_iff_toInt_le] at d; omega
          · exact h3 j y hj2
theorem ins_ok {N : Nat} (hN : N < 4) {us : Int32} {rk od : Nat → Int32} (ho : OrdOk N us rk od) {p1 : Int32} (hp : 0 ≤ p1.toInt ∧ p1.toInt ≤ 9) {od' : Nat → Int32} {q : Nat} (hq : q ≤ N) (g1 : ∀ j, j < q → od' j = od j) (g2 : od' q = nI N) (g3 : ∀ j, q < j → j ≤ N → od' j = od (j - 1))
    (g4 : ∀ j, q ≤ j → j < N → p1.toInt < (rk (od j).toNatClampNeg).toInt) (g5 : q = 0 ∨ (rk (od (q - 1)).toNatClampNeg).toInt ≤ p1.toInt) : OrdOk (N + 1) (nI (N + 1)) (upd rk N p1) od' := by
  obtain ⟨h0, hN4, hr, hin, hs, hsur⟩ := id ho
  have hNc : (nI N).toNatClampNeg = N := nI_clamp (by omega)
  have old : ∀ j, j < N → ∃ u, u < N ∧ od j = nI u ∧ (od j).toNatClampNeg = u ∧ ok_K rk od j = (rk u).toInt.toNat * 8 + u ∧ 0 ≤ (rk u).toInt ∧ (rk u).toInt ≤ 9 := fun j hj => by
    obtain ⟨u, hu, eu⟩ := hin j hj
    have huc : (od j).toNatClampNeg = u := by rw [eu, nI_clamp (by omega)]
    exact ⟨u, hu, eu, huc, by unfold ok_K; rw [huc]; rfl, (hr u hu).1, (hr u hu).2⟩
  -- a place of the new order: an old place, or the new user's
  have key : ∀ i, i < N + 1 → (∃ j, j < N ∧ od' i = od j ∧ ok_K (upd rk N p1) od' i = ok_K rk od j ∧ ((i < q ∧ j = i) ∨ (q < i ∧ j = i - 1))) ∨ (i = q ∧ ok_K (upd rk N p1) od' i = p1.toInt.toNat * 8 + N) := fun i hi => by
    have same : ∀ j, j < N → od' i = od j → ok_K (upd rk N p1) od' i = ok_K rk od j := fun j hj e => by
      obtain ⟨u, hu, eu, huc, -⟩ := old j hj
      unfold ok_K; rw [e, huc, updI_ne rk p1 (by omega)]
    rcases Nat.lt_trichotomy i q with z | z | z
    · exact Or.inl ⟨i, by omega, g1 i z, same i (by omega) (g1 i z), Or.inl ⟨z, rfl⟩⟩
    · right
      subst z
      refine ⟨rfl, ?_⟩
      unfold ok_K; rw [g2, hNc, updI_self]; rfl
    · exact Or.inl ⟨i - 1, by omega, g3 i z (by omega), same (i - 1) (by omega) (g3 i z (by omega)), Or.inr ⟨z, rfl⟩⟩
  refine ⟨rfl, by omega, fun u hu => ?_, fun i hi => ?_, fun i j hij hj => ?_, fun u hu => ?_⟩
  · by_cases z : u = N
    · subst z; rw [updI_self]; exact hp
    · rw [updI_ne _ _ z]; exact hr u (by omega)
  · rcases key i hi with ⟨j, hj, e, -⟩ | ⟨e, -⟩
    · obtain ⟨u, hu, eu, -⟩ := old j hj
      exact ⟨u, by omega, by rw [e, eu]⟩
    · subst e; exact ⟨N, by omega, g2⟩
  · rcases key i (by omega) with ⟨a, ha, -, ka, pa⟩ | ⟨ea, ka⟩
    · rcases key j hj with ⟨b, hb, -, kb, pb⟩ | ⟨eb, kb⟩
      · rw [ka, kb]; exact hs a b (by omega) hb
      · rw [ka, kb]
        have hai : a = i ∧ i < q := by omega
        obtain ⟨u, hu, eu, huc, k1, r1, r2⟩ := old a ha
        obtain ⟨v, hv, ev, hvc, k2, s1, s2⟩ := old (q - 1) (by omega)
        have g5' : (rk v).toInt ≤ p1.toInt := by
          rcases g5 with y | y
          · omega
          · rw [hvc] at y; exact y
        have hle : ok_K rk od a ≤ ok_K rk od (q - 1) := by
          rcases Nat.lt_or_ge a (q - 1) with y | y
          · exact Nat.le_of_lt (hs a (q - 1) y (by omega))
          · have : a = q - 1 := by omega
            rw [this]; exact Nat.le_refl _
        omega
    · rcases key j hj with ⟨b, hb, -, kb, pb⟩ | ⟨eb, kb⟩
      · rw [ka, kb]
        obtain ⟨u, hu, eu, huc, k1, r1, r2⟩ := old b hb
        have := g4 b (by omega) hb
        rw [huc] at this
        omega
      · omega
  · by_cases z : u = N
    · subst z; exact ⟨q, by omega, g2⟩
    · obtain ⟨i, hi, ei⟩ := hsur u (by omega)
      rcases Nat.lt_or_ge i q with y | y
      · exact ⟨i, by omega, by rw [g1 i y, ei]⟩
      · exact ⟨i + 1, by omega, by rw [g3 (i + 1) (by omega) (by omega)]; exact ei⟩
theorem eq_rank {N : Nat} {us : Int32} {rk od : Nat → Int32} (ho : OrdOk N us rk od) (hod : ∀ i, i < 4 → vp_in (od i) 4) (nd : Nat → Int32) (p1 p2 : Int32) :
    (f_DR_rank us rk nd od p1 p2 = (-1, us, rk, nd, od) ∧ f_Mo_rank us rk nd p1 p2 = (-1, us, rk, nd)) ∨ ∃ od', N < 4 ∧ f_DR_rank us rk nd od p1 p2 = (nI N, nI (N + 1), upd rk N p1, upd nd N p2, od') ∧ f_Mo_rank us rk nd p1 p2 = (nI N, nI (N + 1), upd rk N p1, upd nd N p2) ∧ OrdOk (N + 1) (nI (N + 1)) (upd rk N p1) od' ∧ (∀ i, i < 4 → vp_in (od' i) 4) ∧ 0 ≤ p2.toInt ∧ p2.toInt ≤ 1000000 := by
  obtain ⟨h0, hN4, hr, hin, hs, hsur⟩ := id ho
  subst h0
  unfold f_DR_rank f_Mo_rank f_GasStore_addUser
  simp only [isIn_within p1 0 9 0 9 (by decide) (by decide), isIn_within p2 0 1000000 0 1000000 (by decide) (by decide)]
  by_cases c1 : f_DR_within p1 0 9 = 0
  · left; simp only [if_pos c1, ite_self, and_self]
  · by_cases c2 : f_DR_within p2 0 1000000 = 0
    · left; simp only [if_neg c1, if_pos c2, ite_self, and_self]
    · simp only [if_neg c1, if_neg c2]
      by_cases z : N = 4
      · subst z
        left
        rw [if_neg (show ¬ nI 4 < 4 by decide), if_pos (show nI 4 = 4 by decide)]
        exact ⟨rfl, rfl⟩
      · right
        have hlt : N < 4 := by omega
        have a1 : nI N < 4 := nI_lt (b := 4) hlt (by decide)
        have a2 : ¬ nI N = 4 := fun q => z ((nI_eq (by omega) (by decide)).mp (show nI N = nI 4 from q))
        have hb := within_t rfl c1
        have hb2 := within_t rfl c2
        rw [t_0, t_9] at hb
        rw [t_0, show (1000000 : Int32).toInt = 1000000 by decide] at hb2
        obtain ⟨od', q', hv, e, hq, g1, g2, g3, g4, g5⟩ := ins_loop hlt ho nd p1 p2 5 N od (Nat.le_refl _) (by omega) (fun _ _ => rfl) (fun j h1 h2 => by omega) (fun j h1 h2 => by omega) hod
        rw [if_pos a1, if_neg a2, e, nI_1, nI_clamp (by omega)]
        refine ⟨od', hlt, rfl, ?_, ins_ok hlt ho hb hq g1 g2 g3 g4 g5, hv, hb2⟩
        rw [show nI (N + 1) - 1 = nI N from nI_pred N]
