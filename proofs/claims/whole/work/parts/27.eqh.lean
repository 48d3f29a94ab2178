/-! run: minute by minute -/
theorem run_loop {N : Nat} {tc sb mo us p1 : Int32} {th tm tk tg rt rk nd od : Nat → Int32} {pl : Nat} (hpl : pl ≤ 10000) (hsh : ShOk th) (ht : ToldOk tc tk tg) (hsb : 1 ≤ sb.toInt) (hmo : 0 ≤ mo.toInt) (hrt : RtOk rt) (ho : OrdOk N us rk od) (hnd : ∀ i, i < 4 → 0 ≤ (nd i).toInt) {P : Nat} (hP : P ≤ 1000) (hp1 : p1 = nI P) :
    ∀ (n i M : Nat) (cam gma he gi fl : Int64) (gr gv pk ac : Nat → Int64) (B : Int), i ≤ P → P - i < n → M + (P - i) ≤ pl → 0 ≤ B → B + 3000000 * ((P : Int) - i) ≤ 900000000000 → GasOk B gr gma he → PkOk M pk ac →
      ∃ (M' : Nat) (cam' gma' he' gi' fl' : Int64) (gr' gv' pk' ac' : Nat → Int64), M' = M + (P - i) ∧
        f_DR_run_L35 th tc tm tk tg sb rt us mo nd od p1 pl n (nI i) (nI M) cam gma gr he gi fl gv (nI M) pk = (nI M', nI M', cam', gma', gr', he', gi', fl', gv', nI M', pl, pk') ∧
        f_Mo_run_L28 tc (Int32.toInt64 sb) (Int32.toInt64 mo) us th tm tk tg rt rk nd p1 n (nI i) (nI M) cam gma gi fl he gr gv ac = (nI M', nI M', cam', gma', gi', fl', he', gr', gv', ac') ∧
        GasOk (B + 3000000 * ((P : Int) - i)) gr' gma' he' ∧ PkOk M' pk' ac' := by
  subst hp1
  intro n
  induction n with
  | zero => intro i M cam gma he gi fl gr gv pk ac B _ h; exact absurd h (Nat.not_lt_zero _)
  | succ n ih =>
    intro i M cam gma he gi fl gr gv pk ac B hi hn hM hB0 hB hG hpk
    rw [f_DR_run_L35, f_Mo_run_L28]
    by_cases c : i = P
    · subst c
      rw [if_pos (nI_le (Nat.le_refl _) (by omega)), if_pos (nI_le (Nat.le_refl _) (by omega))]
      refine ⟨M, cam, gma, he, gi, fl, gr, gv, pk, ac, by omega, rfl, rfl, ?_, hpk⟩
      rw [show B + 3000000 * ((i : Int) - i) = B by omega]; exact hG
    · have cn : ¬ nI P ≤ nI i := nI_ge (by omega) (by omega)
      rw [if_neg cn, if_neg cn]
      obtain ⟨cam1, gma1, he1, gi1, fl1, gr1, gv1, e1, e2, hG1⟩ := eq_minute (nm := nI M) (pn := nI M) (pl := pl) (pk := pk) (Mac := ac) (cam := cam) (gi := gi) (fl := fl) (gv := gv) (tm := tm) hsh ht hsb hmo hrt ho hnd hB0 (by omega) hG
      obtain ⟨pk1, e3, hpk1⟩ := peaks_add (N := M) (pl := pl) (by omega) hpl hpk (gr1 2)
      rw [e1, e2, e3]
      simp only [nI_1]
      rw [nI_clamp (by omega)]
      obtain ⟨M', cam', gma', he', gi', fl', gr', gv', pk', ac', m1, m2, m3, m4, m5⟩ := ih (i + 1) (M + 1) cam1 gma1 he1 gi1 fl1 gr1 gv1 pk1 (vp_updL ac M (gr1 2)) (B + 3000000) (by omega) (by omega) (by omega) (by omega) (by omega) hG1 hpk1
      refine ⟨M', cam', gma', he', gi', fl', gr', gv', pk', ac', by omega, m2, m3, ?_, m5⟩
      rw [show B + 3000000 * ((P : Int) - i) = B + 3000000 + 3000000 * ((P : Int) - (i + 1 : Nat)) by omega]; exact m4
theorem eq_run {N M : Nat} {tc sb mo us : Int32} {cam gma he gi fl : Int64} {th tm tk tg rt rk nd od : Nat → Int32} {gr gv pk ac : Nat → Int64} {pl : Nat} (hpl : pl ≤ 10000) (hMp : M ≤ pl) (hsh : ShOk th) (ht : ToldOk tc tk tg) (hsb : 1 ≤ sb.toInt) (hmo : 0 ≤ mo.toInt) (hrt : RtOk rt) (ho : OrdOk N us rk od) (hnd : ∀ i, i < 4 → 0 ≤ (nd i).toInt) {B : Int} (hB0 : 0 ≤ B) (hB : B ≤ 800000000000) (hG : GasOk B gr gma he) (hpk : PkOk M pk ac) (p1 : Int32) :
    ∃ (r : Int32) (M' pl' : Nat) (cam' gma' he' gi' fl' : Int64) (gr' gv' pk' ac' : Nat → Int64), M ≤ M' ∧ M' ≤ pl' ∧ pl' ≤ 10000 ∧
      f_DR_run (nI M) th tc tm tk tg sb cam gma gr rt us mo he gi fl nd gv od (nI M) pl pk p1 = (r, nI M', cam', gma', gr', he', gi', fl', gv', nI M', pl', pk') ∧
      f_Mo_run tc (Int32.toInt64 sb) (Int32.toInt64 mo) us (nI M) cam gma gi fl he th gr tm tk tg rt rk nd gv ac p1 = (r, nI M', cam', gma', gi', fl', he', gr', gv', ac') ∧
      GasOk (B + 3000000 * ((M' : Int) - M)) gr' gma' he' ∧ PkOk M' pk' ac' := by
  have keep : GasOk (B + 3000000 * ((M : Int) - M)) gr gma he := by rw [show B + 3000000 * ((M : Int) - M) = B by omega]; exact hG
  unfold f_DR_run f_Mo_run
  simp only [isIn_within p1 1 1000 1 1000 (by decide) (by decide)]
  by_cases c1 : f_DR_within p1 1 1000 = 0
  · simp only [if_pos c1]
    exact ⟨_, M, pl, cam, gma, he, gi, fl, gr, gv, pk, ac, Nat.le_refl _, hMp, hpl, rfl, rfl, keep, hpk⟩
  · simp only [if_neg c1]
    have b1 := within_t rfl c1
    rw [t_1, t_1000] at b1
    obtain ⟨P, hP, rfl⟩ : ∃ P : Nat, P ≤ 1000 ∧ p1 = nI P := ⟨p1.toInt.toNat, by omega, nI_inj_i (by omega) (by omega)⟩
    by_cases c2 : nI M + nI P ≤ 10000
    · simp only [if_pos c2]
      rw [nI_add, Int32.le_iff_toInt_le, nI_toInt (by omega), t_10000] at c2
      rcases hmk : f_AcidPeaks_makeRoomFor (nI M) pl pk (nI P) with ⟨pl2, pk2⟩
      obtain ⟨k1, k2, k3⟩ := mk_spec hpl (by rw [nI_add]; exact vp_in_nI (by omega) (by decide)) hmk
      rw [nI_add, nI_toInt (by omega)] at k2
      have hpk2 : PkOk M pk2 ac := fun j hj => by rw [k3 j (by omega)]; exact hpk j hj
      obtain ⟨M', cam', gma', he', gi', fl', gr', gv', pk', ac', m1, m2, m3, m4, m5⟩ := run_loop k1 hsh ht hsb hmo hrt ho hnd hP rfl 1001 0 M cam gma he gi fl gr gv pk2 ac B (by omega) (by omega) (by omega) hB0 (by omega) hG hpk2
      rw [nI_0] at m2 m3
      refine ⟨nI M', M', pl2, cam', gma', he', gi', fl', gr', gv', pk', ac', by omega, by omega, k1, m2, m3, ?_, m5⟩
      rw [show (M' : Int) - M = (P : Int) - (0 : Nat) by omega]; exact m4
    · simp only [if_neg c2]
      exact ⟨_, M, pl, cam, gma, he, gi, fl, gr, gv, pk, ac, Nat.le_refl _, hMp, hpl, rfl, rfl, keep, hpk⟩
