/-! a minute: the stuff that comes in, the steps, how much there can be at all -/
theorem l_swap (x y a : Int64) : (x + a) + (y - a) = x + y := by
  have e : (x + a) + (y - a) = (x + y) + (a + -a) := by simp only [Int64.sub_eq_add_neg]; ac_rfl
  rw [e, Int64.add_right_neg, Int64.add_zero]
theorem eq_comes (th : Nat → Int32) (cam : Int64) (gr : Nat → Int64) (p1 : Int32) (p2 : Int64) : f_DR_takeIn th cam gr p1 p2 = f_Mo_comes cam th gr p1 p2 := by
  unfold f_DR_takeIn f_Mo_comes f_Tank_bring f_Shares_of f_DR_thousandthsOf
  simp only [Int32.mul_comm p1 3]
  refine Prod.ext ?_ rfl
  show ((((cam + _) + _) + _) + (((p2 - _) - _) - _)) = cam + p2
  rw [l_swap, l_swap, l_swap]
def ShOk (th : Nat → Int32) : Prop := ∀ k, k < 4 → 0 ≤ (th (3 * k)).toInt ∧ 0 ≤ (th (3 * k + 1)).toInt ∧ 0 ≤ (th (3 * k + 2)).toInt ∧ (th (3 * k)).toInt + (th (3 * k + 1)).toInt + (th (3 * k + 2)).toInt ≤ 1000
def PartsOk (B : Int) (gr : Nat → Int64) : Prop := 0 ≤ (gr 0).toInt ∧ 0 ≤ (gr 1).toInt ∧ 0 ≤ (gr 2).toInt ∧ 0 ≤ (gr 3).toInt ∧ (gr 0).toInt + (gr 1).toInt + (gr 2).toInt + (gr 3).toInt ≤ B
theorem share_i {g : Int64} {t : Int32} (g0 : 0 ≤ g.toInt) (g1 : g.toInt ≤ 100000) (t0 : 0 ≤ t.toInt) (t1 : t.toInt ≤ 1000) : ((g * Int32.toInt64 t) / 1000).toInt = g.toInt * t.toInt / 1000 ∧ 0 ≤ g.toInt * t.toInt := by
  have m : g.toInt * t.toInt ≤ 100000 * 1000 := Int.mul_le_mul g1 t1 t0 (by decide)
  have m0 : 0 ≤ g.toInt * t.toInt := Int.mul_nonneg g0 t0
  have e : (g * Int32.toInt64 t).toInt = g.toInt * t.toInt := by rw [l_mul] <;> rw [ext_i] <;> omega
  refine ⟨?_, m0⟩
  rw [l_div (by rw [e]; exact m0) (by rw [t64_1000]; decide), e, t64_1000]
theorem comes_parts {th : Nat → Int32} (hsh : ShOk th) {k : Nat} (hk : k < 4) {g : Int64} (g0 : 0 ≤ g.toInt) (g1 : g.toInt ≤ 100000) {B : Int} (hB : B ≤ 1000000000000) {gr : Nat → Int64} (hp : PartsOk B gr) (cam : Int64) : PartsOk (B + 100000) (f_Mo_comes cam th gr (nI k) g).2 := by
  obtain ⟨s0, s1, s2, ss⟩ := hsh k hk
  obtain ⟨a0, a1, a2, a3, asum⟩ := hp
  have i0 : Int32.toNatClampNeg ((3 * nI k) + 0) = 3 * k := by
    rw [Int32.add_zero, show (3 : Int32) = nI 3 from rfl, pk_mul, nI_clamp (by omega)]
  have i1 : Int32.toNatClampNeg ((3 * nI k) + 1) = 3 * k + 1 := by
    rw [show (3 : Int32) = nI 3 from rfl, pk_mul, nI_1, nI_clamp (by omega)]
  have i2 : Int32.toNatClampNeg ((3 * nI k) + 2) = 3 * k + 2 := by
    rw [show (3 : Int32) = nI 3 from rfl, pk_mul, show (2 : Int32) = nI 2 from rfl, nI_add, nI_clamp (by omega)]
  obtain ⟨e0, m0⟩ := share_i (t := th (3 * k)) g0 g1 s0 (by omega)
  obtain ⟨e1, m1⟩ := share_i (t := th (3 * k + 1)) g0 g1 s1 (by omega)
  obtain ⟨e2, m2⟩ := share_i (t := th (3 * k + 2)) g0 g1 s2 (by omega)
  have msum : g.toInt * (th (3 * k)).toInt + g.toInt * (th (3 * k + 1)).toInt + g.toInt * (th (3 * k + 2)).toInt ≤ g.toInt * 1000 := by
    rw [← Int.mul_add, ← Int.mul_add]
    exact Int.mul_le_mul_of_nonneg_left ss g0
  unfold f_Mo_comes
  rw [i0, i1, i2]
  generalize ha : (g * Int32.toInt64 (th (3 * k))) / 1000 = x0 at *
  generalize hb : (g * Int32.toInt64 (th (3 * k + 1))) / 1000 = x1 at *
  generalize hc : (g * Int32.toInt64 (th (3 * k + 2))) / 1000 = x2 at *
  have q0 : (gr 0 + x0).toInt = (gr 0).toInt + x0.toInt := by rw [l_add] <;> omega
  have q1 : (gr 1 + x1).toInt = (gr 1).toInt + x1.toInt := by rw [l_add] <;> omega
  have q2 : (gr 2 + x2).toInt = (gr 2).toInt + x2.toInt := by rw [l_add] <;> omega
  have r0 : (g - x0).toInt = g.toInt - x0.toInt := by rw [l_sub] <;> omega
  have r1 : (g - x0 - x1).toInt = g.toInt - x0.toInt - x1.toInt := by rw [l_sub] <;> rw [r0] <;> omega
  have r2 : (g - x0 - x1 - x2).toInt = g.toInt - x0.toInt - x1.toInt - x2.toInt := by rw [l_sub] <;> rw [r1] <;> omega
  have q3 : (gr 3 + (g - x0 - x1 - x2)).toInt = (gr 3).toInt + (g.toInt - x0.toInt - x1.toInt - x2.toInt) := by rw [l_add] <;> rw [r2] <;> omega
  simp only [PartsOk, vp_updL]
  simp [-Int64.toInt_add, -Int64.toInt_sub]
  rw [q0, q1, q2, q3]
  omega
def ToldOk (tc : Int32) (tk tg : Nat → Int32) : Prop := vp_in tc 31 ∧ (∀ i, i < 30 → vp_in (tk i) 4) ∧ (∀ i, i < 30 → 0 ≤ (tg i).toInt ∧ (tg i).toInt ≤ 100000)
theorem told_parts {nm tc : Int32} {th tm tk tg : Nat → Int32} (hsh : ShOk th) (ht : ToldOk tc tk tg) : ∀ (n : Nat) (iv : Int32) (cam : Int64) (gr : Nat → Int64) (B : Int), vp_in iv 31 → 30 - iv.toNatClampNeg < n → 0 ≤ B → B ≤ 900000000000 → PartsOk (B + 100000 * iv.toInt) gr → PartsOk (B + 3000000) (f_DR_takeInTold_L2 nm th tc tm tk tg n iv cam gr).2 := by
  obtain ⟨hc, hk, hg⟩ := ht
  intro n
  induction n with
  | zero => intro iv cam gr B _ h; exact absurd h (Nat.not_lt_zero _)
  | succ n ih =>
    intro iv cam gr B hi hn hB0 hB hp
    have hi2 := vp_in_iff.mp hi
    rw [f_DR_takeInTold_L2]
    by_cases c : tc ≤ iv
    · rw [if_pos c]
      obtain ⟨a0, a1, a2, a3, s⟩ := hp
      show PartsOk (B + 3000000) gr
      exact ⟨a0, a1, a2, a3, by omega⟩
    · rw [if_neg c]
      have hi30 := in_ti hi hc c
      have hnx := in_tin hi hc c
      have hlt := ti_lt hi hc c hn
      have e1 : (iv + 1).toInt = iv.toInt + 1 := by rw [i_add] <;> rw [t_1] <;> omega
      have mono : ∀ g, PartsOk (B + 100000 * iv.toInt) g → PartsOk (B + 100000 * (iv + 1).toInt) g := fun g q => by
        obtain ⟨a0, a1, a2, a3, s⟩ := q
        exact ⟨a0, a1, a2, a3, by rw [e1]; omega⟩
      by_cases d : tm iv.toNatClampNeg = nm
      · rw [if_pos d, eq_comes]
        obtain ⟨k, hk4, ek⟩ := vp_in_of (hk _ (in_lt hi30)) (by decide)
        have hgr := hg _ (in_lt hi30)
        have hcp := comes_parts hsh hk4 (g := Int32.toInt64 (tg iv.toNatClampNeg)) (by rw [ext_i]; exact hgr.1) (by rw [ext_i]; exact hgr.2) (by omega) hp cam
        rw [← ek] at hcp
        refine ih (iv + 1) _ _ B hnx hlt hB0 hB ?_
        rw [show B + 100000 * (iv + 1).toInt = B + 100000 * iv.toInt + 100000 by rw [e1]; omega]
        exact hcp
      · rw [if_neg d]
        exact ih (iv + 1) cam gr B hnx hlt hB0 hB (mono gr hp)
/-- the first loop of the reference's minute is the class's -/
theorem mo_told {nm tc us : Int32} {Mbo Mro Mga Mgl Mfl Mst : Int64} {th tm tk tg rt rk nd : Nat → Int32} {gv Mac : Nat → Int64} (hc : vp_in tc 31) : ∀ (n : Nat) (iv : Int32) (cam : Int64) (gr : Nat → Int64), vp_in iv 31 → 30 - iv.toNatClampNeg < n →
    f_Mo_minute_L2 tc Mbo Mro us nm Mga Mgl Mfl Mst th tm tk tg rt rk nd gv Mac n iv cam gr = f_Mo_minute_L2 tc Mbo Mro us nm Mga Mgl Mfl Mst th tm tk tg rt rk nd gv Mac 1 tc (f_DR_takeInTold_L2 nm th tc tm tk tg n iv cam gr).1 (f_DR_takeInTold_L2 nm th tc tm tk tg n iv cam gr).2 := by
  intro n
  induction n with
  | zero => intro iv cam gr _ h; exact absurd h (Nat.not_lt_zero _)
  | succ n ih =>
    intro iv cam gr hi hn
    have hrefl : tc ≤ tc := by rw [Int32.le_iff_toInt_le]; omega
    by_cases c : tc ≤ iv
    · rw [f_DR_takeInTold_L2, if_pos c, f_Mo_minute_L2, if_pos c, f_Mo_minute_L2, if_pos hrefl]
    · have hnx := in_tin hi hc c
      have hlt := ti_lt hi hc c hn
      rw [f_DR_takeInTold_L2, if_neg c, f_Mo_minute_L2, if_neg c]
      by_cases d : tm iv.toNatClampNeg = nm
      · rw [if_pos d, if_pos d, eq_comes]
        exact ih (iv + 1) _ _ hnx hlt
      · rw [if_neg d, if_neg d]
        exact ih (iv + 1) cam gr hnx hlt
theorem speed_eq {sb : Int32} (hs : 1 ≤ sb.toInt) {gr : Nat → Int64} (h0 : 0 ≤ (gr 2).toInt) (h1 : (gr 2).toInt ≤ 1000000000000) :
    (lg_cmp ((1000 * (gr 2)) / (Int32.toInt64 sb)) 1000 ≤ 0 → f_Tank_speed sb gr = 1000 - ((1000 * (gr 2)) / (Int32.toInt64 sb))) ∧ (¬ lg_cmp ((1000 * (gr 2)) / (Int32.toInt64 sb)) 1000 ≤ 0 → f_Tank_speed sb gr = 0) ∧ 0 ≤ (f_Tank_speed sb gr).toInt ∧ (f_Tank_speed sb gr).toInt ≤ 1000 := by
  have e1 : (1000 * gr 2).toInt = 1000 * (gr 2).toInt := by rw [l_mul] <;> rw [t64_1000] <;> omega
  have e2 : ((1000 * gr 2) / Int32.toInt64 sb).toInt = 1000 * (gr 2).toInt / sb.toInt := by rw [l_div (by rw [e1]; omega) (by rw [ext_i]; omega), e1, ext_i]
  have q0 : 0 ≤ 1000 * (gr 2).toInt / sb.toInt := Int.ediv_nonneg (by omega) (by omega)
  have q1 : 1000 * (gr 2).toInt / sb.toInt ≤ 1000 * (gr 2).toInt := Int.ediv_le_self _ (by omega)
  have k1 : (gr 2).toInt < sb.toInt → 1000 * (gr 2).toInt / sb.toInt < 1000 := fun h => Int.ediv_lt_of_lt_mul (by omega) (by omega)
  have k2 : ¬ (gr 2).toInt < sb.toInt → 1000 ≤ 1000 * (gr 2).toInt / sb.toInt := fun h => Int.le_ediv_of_mul_le (by omega) (by omega)
  have hc : (lg_cmp (gr 2) (Int32.toInt64 sb) < 0) ↔ (gr 2).toInt < sb.toInt := by rw [lg_cmp_lt, Int64.lt_iff_toInt_lt, ext_i]
  generalize hq : (1000 * gr 2) / Int32.toInt64 sb = q at *
  have e3 : (1000 - q).toInt = 1000 - q.toInt := by rw [l_sub] <;> rw [t64_1000] <;> omega
  have hcmp : (lg_cmp q 1000 ≤ 0) ↔ q.toInt ≤ 1000 := by rw [lg_cmp_le, Int64.le_iff_toInt_le, t64_1000]
  unfold f_Tank_speed
  rw [hq]
  by_cases c : lg_cmp (gr 2) (Int32.toInt64 sb) < 0
  · have k := k1 (hc.mp c)
    rw [if_pos c]
    refine ⟨fun _ => rfl, fun z => absurd (hcmp.mpr (by omega)) z, by rw [e3]; omega, by rw [e3]; omega⟩
  · have k := k2 (fun z => c (hc.mpr z))
    rw [if_neg c]
    refine ⟨fun z => ?_, fun _ => rfl, by decide, by decide⟩
    have z2 := hcmp.mp z
    apply Int64.toInt_inj.mp
    rw [e3, t64_0]
    omega
theorem steps_eq (gr : Nat → Int64) (rt : Nat → Int32) (k : Int32) (s : Int64) : f_Tank_broken gr rt k s = f_Mo_steps gr rt s k := rfl
theorem steps_i {gr : Nat → Int64} {rt : Nat → Int32} {s : Int64} {k : Int32} {i : Nat} (hk : k.toNatClampNeg = i) (g0 : 0 ≤ (gr i).toInt) (g1 : (gr i).toInt ≤ 1000000000000) (r0 : 0 ≤ (rt i).toInt) (r1 : (rt i).toInt ≤ 1000000) (s0 : 0 ≤ s.toInt) (s1 : s.toInt ≤ 1000) :
    0 ≤ (f_Mo_steps gr rt s k).toInt ∧ (f_Mo_steps gr rt s k).toInt ≤ (gr i).toInt := by
  unfold f_Mo_steps
  rw [hk]
  have m0 : 0 ≤ (gr i).toInt * (rt i).toInt := Int.mul_nonneg g0 r0
  have m1 : (gr i).toInt * (rt i).toInt ≤ (gr i).toInt * 1000000 := Int.mul_le_mul_of_nonneg_left r1 g0
  have e1 : (gr i * Int32.toInt64 (rt i)).toInt = (gr i).toInt * (rt i).toInt := by rw [l_mul] <;> rw [ext_i] <;> omega
  have t6 : (1000000 : Int64).toInt = 1000000 := by decide
  have e2 : (gr i * Int32.toInt64 (rt i) / 1000000).toInt = (gr i).toInt * (rt i).toInt / 1000000 := by rw [l_div (by rw [e1]; exact m0) (by rw [t6]; decide), e1, t6]
  have b0 : 0 ≤ (gr i).toInt * (rt i).toInt / 1000000 := Int.ediv_nonneg m0 (by decide)
  have b1 : (gr i).toInt * (rt i).toInt / 1000000 ≤ (gr i).toInt := by omega
  generalize (gr i).toInt * (rt i).toInt / 1000000 = y at e2 b0 b1
  generalize gr i * Int32.toInt64 (rt i) / 1000000 = z at e2 ⊢
  have n0 : 0 ≤ y * s.toInt := Int.mul_nonneg b0 s0
  have n1 : y * s.toInt ≤ y * 1000 := Int.mul_le_mul_of_nonneg_left s1 b0
  have e3 : (z * s).toInt = y * s.toInt := by rw [l_mul] <;> rw [e2] <;> omega
  have e4 : (z * s / 1000).toInt = y * s.toInt / 1000 := by rw [l_div (by rw [e3]; exact n0) (by rw [t64_1000]; decide), e3, t64_1000]
  rw [e4]
  generalize y * s.toInt = w at n0 n1 ⊢
  omega
def GasOk (B : Int) (gr : Nat → Int64) (gma he : Int64) : Prop := 0 ≤ (gr 0).toInt ∧ 0 ≤ (gr 1).toInt ∧ 0 ≤ (gr 2).toInt ∧ 0 ≤ (gr 3).toInt ∧ 0 ≤ he.toInt ∧ he.toInt ≤ gma.toInt ∧ (gr 0).toInt + (gr 1).toInt + (gr 2).toInt + (gr 3).toInt + gma.toInt ≤ B
theorem give_b {he gi : Int64} {nd : Nat → Int32} {gv : Nat → Int64} {u : Int32} (h0 : 0 ≤ he.toInt) (hn : 0 ≤ (nd u.toNatClampNeg).toInt) : 0 ≤ (f_GasStore_giveTo he gi nd gv u).1.toInt ∧ (f_GasStore_giveTo he gi nd gv u).1.toInt ≤ he.toInt := by
  have hh := Int64.toInt_lt he
  unfold f_GasStore_giveTo
  show 0 ≤ (he - _).toInt ∧ (he - _).toInt ≤ he.toInt
  by_cases c : he < Int32.toInt64 (nd u.toNatClampNeg)
  · rw [if_pos c, l_sub] <;> omega
  · rw [if_neg c]
    rw [Int64.lt_iff_toInt_lt, ext_i] at c
    rw [l_sub] <;> rw [ext_i] <;> omega
theorem gas_G_b {nd od : Nat → Int32} {N : Nat} (hin : ∀ i, i < N → 0 ≤ (nd (od i).toNatClampNeg).toInt) : ∀ (k i : Nat) (s : Int64 × Int64 × (Nat → Int64)), i + k ≤ N → 0 ≤ s.1.toInt → 0 ≤ (gas_G nd od k i s).1.toInt ∧ (gas_G nd od k i s).1.toInt ≤ s.1.toInt := by
  intro k
  induction k with
  | zero => intro i s _ h; exact ⟨h, Int.le_refl _⟩
  | succ k ih =>
    intro i s hi h
    have b := give_b (gi := s.2.1) (gv := s.2.2) h (hin i (by omega))
    have c := ih (i + 1) (f_GasStore_giveTo s.1 s.2.1 nd s.2.2 (od i)) (by omega) b.1
    rw [gas_G]
    exact ⟨c.1, by omega⟩
theorem gas_fin_b {mo : Int32} (hm : 0 ≤ mo.toInt) (fl : Int64) {s : Int64 × Int64 × (Nat → Int64)} (h0 : 0 ≤ s.1.toInt) : 0 ≤ (gas_fin mo fl s).1.toInt ∧ (gas_fin mo fl s).1.toInt ≤ s.1.toInt := by
  have hh := Int64.toInt_lt s.1
  have hmh := i_hi mo
  have e : (s.1 - Int32.toInt64 mo).toInt = s.1.toInt - mo.toInt := by rw [l_sub] <;> rw [ext_i] <;> omega
  unfold gas_fin
  show 0 ≤ (s.1 - _).toInt ∧ (s.1 - _).toInt ≤ s.1.toInt
  by_cases c : s.1 - Int32.toInt64 mo < 0
  · rw [if_pos c, l_sub] <;> rw [t64_0] <;> omega
  · rw [if_neg c]
    rw [Int64.lt_iff_toInt_lt, e, t64_0] at c
    rw [l_sub] <;> rw [e] <;> omega
theorem eq_minute {N : Nat} {nm tc sb mo us pn : Int32} {cam gma he gi fl : Int64} {th tm tk tg rt rk nd od : Nat → Int32} {gr gv Mac pk : Nat → Int64} {pl : Nat} {B : Int}
    (hsh : ShOk th) (ht : ToldOk tc tk tg) (hsb : 1 ≤ sb.toInt) (hmo : 0 ≤ mo.toInt) (hrt : ∀ i, i < 3 → 0 ≤ (rt i).toInt ∧ (rt i).toInt ≤ 1000000) (ho : OrdOk N us rk od) (hnd : ∀ i, i < 4 → 0 ≤ (nd i).toInt) (hB0 : 0 ≤ B) (hB : B ≤ 900000000000) (hG : GasOk B gr gma he) :
    ∃ (cam' gma' he' gi' fl' : Int64) (gr' gv' : Nat → Int64),
      f_DR_passMinute nm th tc tm tk tg sb cam gma gr rt us mo he gi fl nd gv od pn pl pk = (nm + 1, cam', gma', gr', he', gi', fl', gv', (f_AcidPeaks_add pn pl pk (gr' 2)).1, (f_AcidPeaks_add pn pl pk (gr' 2)).2) ∧
      f_Mo_minute tc (Int32.toInt64 sb) (Int32.toInt64 mo) us nm cam gma gi fl he th gr tm tk tg rt rk nd gv Mac = (nm + 1, cam', gma', gi', fl', he', gr', gv', vp_updL Mac nm.toNatClampNeg (gr' 2)) ∧ GasOk (B + 3000000) gr' gma' he' := by
  obtain ⟨hus, hN4, hr9, hin, hs, hsur⟩ := id ho
  subst hus
  obtain ⟨g0, g1, g2, g3, h0, h1, hsum⟩ := hG
  have hgma0 : 0 ≤ gma.toInt := by omega
  have hz : vp_in (0 : Int32) 31 := by unfold vp_in; decide
  have hp0 : PartsOk (B - gma.toInt + 100000 * (0 : Int32).toInt) gr := by
    rw [t_0]; exact ⟨g0, g1, g2, g3, by omega⟩
  have hparts := told_parts (nm := nm) (tm := tm) hsh ht 31 0 cam gr (B - gma.toInt) hz (by decide) (by omega) (by omega) hp0
  have hmo2 := mo_told (nm := nm) (us := nI N) (Mbo := Int32.toInt64 sb) (Mro := Int32.toInt64 mo) (Mga := gma) (Mgl := gi) (Mfl := fl) (Mst := he) (th := th) (tm := tm) (tk := tk) (tg := tg) (rt := rt) (rk := rk) (nd := nd) (gv := gv) (Mac := Mac) ht.1 31 0 cam gr hz (by decide)
  unfold f_DR_passMinute f_DR_takeInTold f_Mo_minute
  rw [hmo2]
  generalize f_DR_takeInTold_L2 nm th tc tm tk tg 31 0 cam gr = T at hparts ⊢
  obtain ⟨cam1, gr1⟩ := T
  obtain ⟨p0, p1, p2, p3, psum⟩ := hparts
  simp only at p0 p1 p2 p3 psum
  have hrefl : tc ≤ tc := by rw [Int32.le_iff_toInt_le]; omega
  obtain ⟨sp1, sp2, sp3, sp4⟩ := speed_eq hsb (gr := gr1) p2 (by omega)
  have hL2 : f_Mo_minute_L2 tc (Int32.toInt64 sb) (Int32.toInt64 mo) (nI N) nm gma gi fl he th tm tk tg rt rk nd gv Mac 1 tc cam1 gr1 = f_Mo_minute_L168 (Int32.toInt64 mo) (nI N) nm gma fl rk nd Mac cam1 gr1 (f_Mo_steps gr1 rt (f_Tank_speed sb gr1) 0) (f_Mo_steps gr1 rt (f_Tank_speed sb gr1) 1) (f_Mo_steps gr1 rt (f_Tank_speed sb gr1) 2) 11 0 gi (he + f_Mo_steps gr1 rt (f_Tank_speed sb gr1) 2) gv := by
    rw [f_Mo_minute_L2, if_pos hrefl]
    by_cases c : lg_cmp ((1000 * (gr1 2)) / (Int32.toInt64 sb)) 1000 ≤ 0
    · rw [if_pos c, sp1 c]
    · rw [if_neg c, sp2 c]
  have x0 := steps_i (k := 0) (i := 0) (s := f_Tank_speed sb gr1) (by decide) p0 (by omega) (hrt 0 (by decide)).1 (hrt 0 (by decide)).2 sp3 sp4
  have x1 := steps_i (k := 1) (i := 1) (s := f_Tank_speed sb gr1) (by decide) p1 (by omega) (hrt 1 (by decide)).1 (hrt 1 (by decide)).2 sp3 sp4
  have x2 := steps_i (k := 2) (i := 2) (s := f_Tank_speed sb gr1) (by decide) p2 (by omega) (hrt 2 (by decide)).1 (hrt 2 (by decide)).2 sp3 sp4
  simp only [hL2, f_Tank_breakDown, steps_eq]
  generalize f_Mo_steps gr1 rt (f_Tank_speed sb gr1) 0 = y0 at x0 ⊢
  generalize f_Mo_steps gr1 rt (f_Tank_speed sb gr1) 1 = y1 at x1 ⊢
  generalize f_Mo_steps gr1 rt (f_Tank_speed sb gr1) 2 = y2 at x2 ⊢
  have eh : (he + y2).toInt = he.toInt + y2.toInt := by rw [l_add] <;> omega
  have eg : (gma + y2).toInt = gma.toInt + y2.toInt := by rw [l_add] <;> omega
  have hcl := gas_class N mo fl nd od hN4 5 0 (he + y2) gi gv (by omega) (by omega)
  have hou := gas_outer ho nd (Int32.toInt64 mo) nm gma fl Mac cam1 gr1 y0 y1 y2 11 0 0 (he + y2) gi gv (by omega) (by omega) (gas_ptr0 rk od N)
  rw [nI_0] at hcl hou
  have hinn : ∀ i, i < N → 0 ≤ (nd (od i).toNatClampNeg).toInt := fun i hi => by
    obtain ⟨u, hu, eu⟩ := hin i hi
    rw [eu, nI_clamp (by omega)]
    exact hnd u (by omega)
  have hGb := gas_G_b hinn (N - 0) 0 (he + y2, gi, gv) (by omega) (by show 0 ≤ (he + y2).toInt; omega)
  have hFb := gas_fin_b hmo fl hGb.1
  simp only [f_GasStore_passGas, hcl, hou]
  generalize gas_G nd od (N - 0) 0 (he + y2, gi, gv) = S at hGb hFb ⊢
  simp only at hGb
  rw [fin_eq fl S hGb.1 (by omega) hmo]
  refine ⟨_, _, _, _, _, _, _, rfl, rfl, ?_⟩
  have q0 : (gr1 0 - y0).toInt = (gr1 0).toInt - y0.toInt := by rw [l_sub] <;> omega
  have d1 : (y0 - y1).toInt = y0.toInt - y1.toInt := by rw [l_sub] <;> omega
  have q1 : (gr1 1 + (y0 - y1)).toInt = (gr1 1).toInt + (y0.toInt - y1.toInt) := by rw [l_add] <;> rw [d1] <;> omega
  have d2 : (y1 - y2).toInt = y1.toInt - y2.toInt := by rw [l_sub] <;> omega
  have q2 : (gr1 2 + (y1 - y2)).toInt = (gr1 2).toInt + (y1.toInt - y2.toInt) := by rw [l_add] <;> rw [d2] <;> omega
  simp only [GasOk, vp_updL]
  simp [-Int64.toInt_add, -Int64.toInt_sub]
  rw [q0, q1, q2, eg]
  omega
