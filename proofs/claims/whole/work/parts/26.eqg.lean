/-! peaks; serve; loads -/
theorem updL_self (f : Nat → Int64) (k : Nat) (x : Int64) : vp_updL f k x k = x := by simp [vp_updL]
theorem updL_ne (f : Nat → Int64) {k j : Nat} (x : Int64) (h : j ≠ k) : vp_updL f k x j = f j := by simp [vp_updL, h]
theorem pk_more {N : Nat} {pk ac : Nat → Int64} (h : PkOk N pk ac) {v p : Int64} (h1 : ∀ i, i < N → (ac i).toInt ≤ v.toInt) (h2 : p.toInt ≤ v.toInt) (h3 : v = p ∨ ∃ i, i < N ∧ v = ac i) : PkOk (N + 1) (vp_updL pk N v) (vp_updL ac N p) := by
  intro j hj
  by_cases z : j = N
  · subst z
    rw [updL_self]
    refine ⟨fun i hi => ?_, ?_⟩
    · by_cases y : i = j
      · subst y; rw [updL_self]; exact h2
      · rw [updL_ne _ _ y]; exact h1 i (by omega)
    · rcases h3 with e | ⟨i, hi, e⟩
      · exact ⟨j, Nat.le_refl _, by rw [updL_self]; exact e⟩
      · exact ⟨i, by omega, by rw [updL_ne _ _ (by omega)]; exact e⟩
  · rw [updL_ne _ _ z]
    obtain ⟨a, i, hi, e⟩ := h j (by omega)
    exact ⟨fun i hi => by rw [updL_ne _ _ (by omega)]; exact a i hi, i, hi, by rw [updL_ne _ _ (by omega)]; exact e⟩
theorem peaks_add {N pl : Nat} (hN : N < pl) (hpl : pl ≤ 10000) {pk ac : Nat → Int64} (h : PkOk N pk ac) (p : Int64) : ∃ pk', f_AcidPeaks_add (nI N) pl pk p = (nI (N + 1), pk') ∧ PkOk (N + 1) pk' (vp_updL ac N p) := by
  unfold f_AcidPeaks_add
  rw [if_pos (nI_lt hN (by omega)), nI_1, nI_clamp (by omega)]
  by_cases z : N = 0
  · subst z
    rw [if_pos (show nI 0 = 0 from rfl)]
    exact ⟨_, rfl, pk_more h (fun i hi => absurd hi (Nat.not_lt_zero _)) (Int.le_refl _) (Or.inl rfl)⟩
  · have em : (nI N - 1).toNatClampNeg = N - 1 := by rw [show (1 : Int32) = nI 1 from rfl, pk_sub (by omega), nI_clamp (by omega)]
    rw [if_neg (nI_ne0 (by omega) (by omega)), em]
    obtain ⟨a, i, hi, e⟩ := h (N - 1) (by omega)
    by_cases c : pk (N - 1) < p
    · rw [if_pos c]
      rw [Int64.lt_iff_toInt_lt] at c
      exact ⟨_, rfl, pk_more h (fun i hi => by have := a i (by omega); omega) (Int.le_refl _) (Or.inl rfl)⟩
    · rw [if_neg c]
      rw [Int64.lt_iff_toInt_lt] at c
      exact ⟨_, rfl, pk_more h (fun i hi => a i (by omega)) (by omega) (Or.inr ⟨i, by omega, e⟩)⟩
/-! serve -/
theorem add_room {tc : Int32} (h : vp_in tc 30) (tm tk tg : Nat → Int32) (p1 p2 p3 : Int32) : f_Told_add tc tm tk tg p1 p2 p3 = (tc + 1, upd tm tc.toNatClampNeg p1, upd tk tc.toNatClampNeg p2, upd tg tc.toNatClampNeg p3) := by
  have h31 : vp_in tc 31 := by rw [vp_in_iff] at h ⊢; omega
  have hn : ¬ tc = 30 := fun q => by
    rw [vp_in_iff, q, t_30] at h; omega
  unfold f_Told_add
  simp only [rm_one h31, if_neg hn]
theorem told_more {tc : Int32} {tk tg : Nat → Int32} (h : ToldOk tc tk tg) (h30 : vp_in tc 30) {k g : Int32} (hk : vp_in k 4) (hg : 0 ≤ g.toInt ∧ g.toInt ≤ 100000) : ToldOk (tc + 1) (upd tk tc.toNatClampNeg k) (upd tg tc.toNatClampNeg g) := by
  obtain ⟨h1, h2, h3⟩ := h
  refine ⟨?_, fun i hi => ?_, fun i hi => ?_⟩
  · rw [vp_in_iff] at h30 ⊢
    rw [i_add] <;> rw [t_1] <;> omega
  · unfold upd; split
    · exact hk
    · exact h2 i hi
  · unfold upd; split
    · exact hg
    · exact h3 i hi
def LgOk (lg : Nat → Int32) : Prop := ∀ k, k < 4 → 0 ≤ (lg k).toInt ∧ (lg k).toInt ≤ 100000
theorem sv_inner {pl : Int32} (hp : vp_in pl 10000) {lg lt : Nat → Int32} (hg : LgOk lg) {ks : Int32} (hk : vp_in ks 5) (ck : ¬ 4 ≤ ks) (hlt : lt ks.toNatClampNeg = f_Mo_timesOf pl ks)
    (k52 k77 : Int32 → Int32 → Int32 → (Nat → Int32) → (Nat → Int32) → (Nat → Int32) → Int32 × Int32 × (Nat → Int32) × (Nat → Int32) × (Nat → Int32)) (Post : Int32 × Int32 × (Nat → Int32) × (Nat → Int32) × (Nat → Int32) → Prop)
    (hkk : ∀ (mi tc : Int32) (tm tk tg : Nat → Int32), sv_A pl (ks + 1) tc → ToldOk tc tk tg → k52 mi (ks + 1) tc tm tk tg = k77 mi (ks + 1) tc tm tk tg ∧ Post (k77 mi (ks + 1) tc tm tk tg)) :
    ∀ (n : Nat) (mi iv tc : Int32) (tm tk tg : Nat → Int32), 9 - iv.toNatClampNeg < n → vp_in iv 10 → sv_B pl ks iv tc → ToldOk tc tk tg →
      f_DR_serve_L60 k52 lg lt ks n mi iv tc tm tk tg = f_Mo_serve_L85 k77 pl lg ks n mi iv tc tm tk tg ∧ Post (f_Mo_serve_L85 k77 pl lg ks n mi iv tc tm tk tg) := by
  intro n
  induction n with
  | zero => intro mi iv tc tm tk tg h; exact absurd h (Nat.not_lt_zero _)
  | succ n ih =>
    intro mi iv tc tm tk tg hm hi hb ht
    rw [f_DR_serve_L60, f_Mo_serve_L85, hlt]
    by_cases c : f_Mo_timesOf pl ks ≤ iv
    · simp only [if_pos c]
      exact hkk mi tc tm tk tg (sv_out hp hk ck hi hb rfl c) ht
    · simp only [if_neg c]
      have h30 := sv_in hp hk ck hb hi rfl c
      rw [add_room h30]
      exact ih (mi + 1) (iv + 1) (tc + 1) _ _ _ (sv_lt hp hk ck hi rfl c hm) (sv_ivn hp hk ck hi rfl c) (sv_step hp hk ck hi hb rfl c) (told_more ht h30 (in_k4 hk ck) (hg _ (in_lt (in_k4 hk ck))))
theorem sv_outer {pl : Int32} (hp : vp_in pl 10000) {lg lt : Nat → Int32} (hg : LgOk lg) (hlt : ∀ ks : Int32, vp_in ks 4 → lt ks.toNatClampNeg = f_Mo_timesOf pl ks) (r r14 r22 r31 r40 : Int32) (hr : r = ((r14 + r22) + r31) + r40) :
    ∀ (n : Nat) (mi ks tc : Int32) (tm tk tg : Nat → Int32), 4 - ks.toNatClampNeg < n → vp_in ks 5 → sv_A pl ks tc → ToldOk tc tk tg →
      f_DR_serve_L52 lg lt r n mi ks tc tm tk tg = f_Mo_serve_L77 pl lg r14 r22 r31 r40 n mi ks tc tm tk tg ∧ (∃ tc' tm' tk' tg', f_Mo_serve_L77 pl lg r14 r22 r31 r40 n mi ks tc tm tk tg = (r, tc', tm', tk', tg') ∧ ToldOk tc' tk' tg') := by
  intro n
  induction n with
  | zero => intro mi ks tc tm tk tg h; exact absurd h (Nat.not_lt_zero _)
  | succ n ih =>
    intro mi ks tc tm tk tg hm hk ha ht
    rw [f_DR_serve_L52, f_Mo_serve_L77]
    by_cases c : 4 ≤ ks
    · rw [if_pos c, if_pos c, hr]
      exact ⟨rfl, _, _, _, _, rfl, ht⟩
    · rw [if_neg c, if_neg c]
      exact sv_inner hp hg hk c (hlt ks (in_k4 hk c)) (f_DR_serve_L52 lg lt r n) (f_Mo_serve_L77 pl lg r14 r22 r31 r40 n) (fun z => ∃ tc' tm' tk' tg', z = (r, tc', tm', tk', tg') ∧ ToldOk tc' tk' tg')
        (fun mi tc tm tk tg h1 h2 => ih mi (ks + 1) tc tm tk tg (k4_lt hk c hm) (in_k4n hk c) h1 h2) 10 mi 0 tc tm tk tg (by decide) (by unfold vp_in; decide) (sv_enter hp hk c ha) ht
theorem eq_serve {nm tc fo : Int32} {tm tk tg lg lt : Nat → Int32} (ht : ToldOk tc tk tg) (hg : LgOk lg) {w : Nat} (hw : w < 10000) (hlt : ¬ fo = 0 → ∀ k, k < 4 → lt k = nI (wt w k)) {pl : Int32} (hpl : ¬ fo = 0 → pl = nI w) :
    f_DR_serve nm tc tm tk tg fo lg lt = f_Mo_serve tc nm fo pl tm tk tg lg ∧ ∃ r tc' tm' tk' tg', f_Mo_serve tc nm fo pl tm tk tg lg = (r, tc', tm', tk', tg') ∧ ToldOk tc' tk' tg' := by
  unfold f_DR_serve f_Mo_serve
  by_cases c : fo = 0
  · simp only [if_pos c]
    exact ⟨trivial, _, _, _, _, _, rfl, ht⟩
  · simp only [if_neg c]
    have hpl := hpl c
    have hlt := hlt c
    subst hpl
    have hp : vp_in (nI w) 10000 := vp_in_nI hw (by decide)
    have tk4 : ∀ k, k < 4 → f_Mo_timesOf (nI w) (nI k) = lt k := fun k hk => by rw [timesOf_n hw hk, hlt k hk]
    have t0 : f_Mo_timesOf (nI w) 0 = lt 0 := tk4 0 (by decide)
    have t1 : f_Mo_timesOf (nI w) 1 = lt 1 := tk4 1 (by decide)
    have t2 : f_Mo_timesOf (nI w) 2 = lt 2 := tk4 2 (by decide)
    have t3 : f_Mo_timesOf (nI w) 3 = lt 3 := tk4 3 (by decide)
    have es : f_Planner_loadsInAll lt = ((lt 0 + lt 1) + lt 2) + lt 3 := by unfold f_Planner_loadsInAll; rw [Int32.zero_add]
    simp only [t0, t1, t2, t3, es]
    by_cases c1 : 10000 < nm + (((lt 0 + lt 1) + lt 2) + lt 3)
    · simp only [if_pos c1]
      exact ⟨trivial, _, _, _, _, _, rfl, ht⟩
    · simp only [if_neg c1]
      by_cases c2 : tc + (((lt 0 + lt 1) + lt 2) + lt 3) ≤ 30
      · have c3 : ¬ f_Told_hasRoomFor tc (((lt 0 + lt 1) + lt 2) + lt 3) = 0 := by
          unfold f_Told_hasRoomFor
          rw [if_neg (show ¬ 30 < tc + (((lt 0 + lt 1) + lt 2) + lt 3) by rw [Int32.lt_iff_toInt_lt]; rw [Int32.le_iff_toInt_le] at c2; omega)]
          decide
        simp only [if_pos c2, if_neg c3]
        obtain ⟨e, tc', tm', tk', tg', e2, h2⟩ := sv_outer hp hg (lt := lt) (fun ks hk => by
          obtain ⟨k, hk4, ek⟩ := vp_in_of hk (by decide)
          rw [ek, nI_clamp (by omega)]; exact (tk4 k hk4).symm) (((lt 0 + lt 1) + lt 2) + lt 3) (lt 0) (lt 1) (lt 2) (lt 3) rfl 5 nm 0 tc tm tk tg (by decide) (by unfold vp_in; decide) (sv_start hp ht.1 t0 t1 t2 t3 c2) ht
        exact ⟨e, _, tc', tm', tk', tg', e2, h2⟩
      · have c3 : f_Told_hasRoomFor tc (((lt 0 + lt 1) + lt 2) + lt 3) = 0 := by
          unfold f_Told_hasRoomFor
          rw [if_pos (show 30 < tc + (((lt 0 + lt 1) + lt 2) + lt 3) by rw [Int32.lt_iff_toInt_lt]; rw [Int32.le_iff_toInt_le] at c2; omega)]
        simp only [if_neg c2, if_pos c3]
        exact ⟨trivial, _, _, _, _, _, rfl, ht⟩
theorem eq_planned {fo p : Int32} {lt : Nat → Int32} {w : Nat} (hw : w < 10000) (hlt : ¬ fo = 0 → ∀ k, k < 4 → lt k = nI (wt w k)) {pl : Int32} (hpl : ¬ fo = 0 → pl = nI w) : f_DR_planned fo lt p = f_Mo_planned fo pl p := by
  unfold f_DR_planned f_Mo_planned
  simp only [eq_isKind]
  by_cases c : fo = 0
  · simp only [if_pos c, ite_self]
  · simp only [if_neg c]
    by_cases d : f_DR_isKind p = 0
    · simp only [if_pos d]
    · simp only [if_neg d]
      obtain ⟨k, hk, e⟩ := vp_in_of (in_isKind rfl d) (by decide)
      rw [hpl c, e, nI_clamp (by omega), hlt c k hk, timesOf_n hw hk]
/-- load -/
theorem eq_load {lg lc lx hl : Nat → Int32} {LC LX : Nat → Nat} (hL : LoadOk lg lc lx hl LC LX) (hg : LgOk lg) (p1 p2 p3 p4 : Int32) :
    ∃ r lg' lc' lx' hl' LC' LX', f_DR_load lg lc lx p1 p2 p3 p4 = (r, lg', lc', lx') ∧ f_Mo_load hl lg lc lx p1 p2 p3 p4 = (r, hl', lg', lc', lx') ∧ LoadOk lg' lc' lx' hl' LC' LX' ∧ LgOk lg' := by
  unfold f_DR_load f_Mo_load f_Planner_setLoad
  simp only [eq_isKind, isIn_within p2 1 100000 1 100000 (by decide) (by decide), isIn_within p3 0 100000 0 100000 (by decide) (by decide), isIn_within p4 0 100000 0 100000 (by decide) (by decide)]
  by_cases c1 : f_DR_isKind p1 = 0
  · simp only [if_pos c1]; exact ⟨_, _, _, _, _, _, _, rfl, rfl, hL, hg⟩
  · by_cases c2 : f_DR_within p2 1 100000 = 0
    · simp only [if_neg c1, if_pos c2]; exact ⟨_, _, _, _, _, _, _, rfl, rfl, hL, hg⟩
    · by_cases c3 : f_DR_within p3 0 100000 = 0
      · simp only [if_neg c1, if_neg c2, if_pos c3]; exact ⟨_, _, _, _, _, _, _, rfl, rfl, hL, hg⟩
      · by_cases c4 : f_DR_within p4 0 100000 = 0
        · simp only [if_neg c1, if_neg c2, if_neg c3, if_pos c4]; exact ⟨_, _, _, _, _, _, _, rfl, rfl, hL, hg⟩
        · simp only [if_neg c1, if_neg c2, if_neg c3, if_neg c4]
          have t5 : (100000 : Int32).toInt = 100000 := by decide
          have b2 := within_t rfl c2; have b3 := within_t rfl c3; have b4 := within_t rfl c4
          rw [t_1, t5] at b2; rw [t_0, t5] at b3 b4
          obtain ⟨k, hk, e⟩ := vp_in_of (in_isKind rfl c1) (by decide)
          subst e
          rw [nI_clamp (by omega)]
          refine ⟨_, _, _, _, _, fun j => if j = k then p3.toInt.toNat else LC j, fun j => if j = k then p4.toInt.toNat else LX j, rfl, rfl, fun j hj => ?_, fun j hj => ?_⟩
          · unfold upd
            by_cases z : j = k
            · subst z
              have hn : ¬ p2 ≤ 0 := by rw [Int32.le_iff_toInt_le, t_0]; omega
              simp only [if_true, if_neg hn]
              exact ⟨nI_inj_i (by omega) (by omega), by omega, nI_inj_i (by omega) (by omega), by omega, fun q => absurd q hn, trivial⟩
            · simp only [if_neg z]
              exact hL j hj
          · unfold upd
            by_cases z : j = k
            · subst z; simp only [if_true]; omega
            · simp only [if_neg z]; exact hg j hj
/-! what the small writing calls keep -/
theorem idx3 {k j : Nat} (hk : k < 4) (hj : j < 3) : Int32.toNatClampNeg ((nI k * 3) + nI j) = 3 * k + j := by
  rw [show (3 : Int32) = nI 3 from rfl, pk_mul, nI_add, nI_clamp (by omega)]; omega
theorem kind_sh {th th' : Nat → Int32} {p1 p2 p3 r : Int32} (h : ShOk th) (w : f_DR_kind th p1 p2 p3 = (r, th')) : ShOk th' := by
  unfold f_DR_kind f_Shares_change f_Shares_of at w
  simp only at w
  by_cases c1 : f_DR_isKind p1 = 0
  · simp only [if_pos c1] at w; cases w; exact h
  · by_cases c2 : f_DR_within p2 0 2 = 0
    · simp only [if_neg c1, if_pos c2] at w; cases w; exact h
    · by_cases c3 : f_DR_within p3 0 1000 = 0
      · simp only [if_neg c1, if_neg c2, if_pos c3] at w; cases w; exact h
      · simp only [if_neg c1, if_neg c2, if_neg c3] at w
        obtain ⟨k, hk, e1⟩ := vp_in_of (in_isKind rfl c1) (by decide)
        obtain ⟨j, hj, e2⟩ := vp_in_of (in_w2 rfl c2) (by decide)
        have b3 := within_t rfl c3
        rw [t_0, t_1000] at b3
        subst e1; subst e2
        have i0 : Int32.toNatClampNeg ((nI k * 3) + 0) = 3 * k := idx3 (j := 0) hk (by decide)
        have i1 : Int32.toNatClampNeg ((nI k * 3) + 1) = 3 * k + 1 := idx3 (j := 1) hk (by decide)
        have i2 : Int32.toNatClampNeg ((nI k * 3) + 2) = 3 * k + 2 := idx3 (j := 2) hk (by decide)
        rw [i0, i1, i2, idx3 hk hj] at w
        by_cases c4 : p3 - th (3 * k + j) + th (3 * k) + th (3 * k + 1) + th (3 * k + 2) ≤ 1000
        · rw [if_pos c4] at w
          cases w
          obtain ⟨s0, s1, s2, ss⟩ := h k hk
          have hjv : th (3 * k + j) = th (3 * k) ∨ th (3 * k + j) = th (3 * k + 1) ∨ th (3 * k + j) = th (3 * k + 2) := by
            rcases (show j = 0 ∨ j = 1 ∨ j = 2 by omega) with z | z | z <;> subst z
            · exact Or.inl rfl
            · exact Or.inr (Or.inl rfl)
            · exact Or.inr (Or.inr rfl)
          have hjb : 0 ≤ (th (3 * k + j)).toInt ∧ (th (3 * k + j)).toInt ≤ 1000 := by
            rcases hjv with z | z | z <;> rw [z] <;> omega
          have e0 : (p3 - th (3 * k + j)).toInt = p3.toInt - (th (3 * k + j)).toInt := by rw [i_sub] <;> omega
          have e1 : (p3 - th (3 * k + j) + th (3 * k)).toInt = p3.toInt - (th (3 * k + j)).toInt + (th (3 * k)).toInt := by rw [i_add] <;> rw [e0] <;> omega
          have e2 : (p3 - th (3 * k + j) + th (3 * k) + th (3 * k + 1)).toInt = p3.toInt - (th (3 * k + j)).toInt + (th (3 * k)).toInt + (th (3 * k + 1)).toInt := by rw [i_add] <;> rw [e1] <;> omega
          have e3 : (p3 - th (3 * k + j) + th (3 * k) + th (3 * k + 1) + th (3 * k + 2)).toInt = p3.toInt - (th (3 * k + j)).toInt + (th (3 * k)).toInt + (th (3 * k + 1)).toInt + (th (3 * k + 2)).toInt := by rw [i_add] <;> rw [e2] <;> omega
          rw [Int32.le_iff_toInt_le, e3, t_1000] at c4
          show ShOk (upd th (3 * k + j) p3)
          intro k' hk'
          by_cases z : k' = k
          · subst z
            rcases (show j = 0 ∨ j = 1 ∨ j = 2 by omega) with y | y | y <;> subst y <;> simp only [upd] <;> simp at c4 ⊢ <;> omega
          · have q : ∀ i, i < 3 → upd th (3 * k + j) p3 (3 * k' + i) = th (3 * k' + i) := fun i hi => updI_ne _ _ (by omega)
            have q0 := q 0 (by decide); have q1 := q 1 (by decide); have q2 := q 2 (by decide)
            simp only [Nat.add_zero] at q0
            rw [q0, q1, q2]
            exact h k' hk'
        · rw [if_neg c4] at w; cases w; exact h
theorem start_gas {cam cam' gma he : Int64} {gr gr' : Nat → Int64} {p1 p2 r : Int32} {B : Int} (hB0 : 0 ≤ B) (hB : B ≤ 900000000000) (h : GasOk B gr gma he) (w : f_DR_start cam gr p1 p2 = (r, cam', gr')) : GasOk (B + 1000000) gr' gma he := by
  have keep : GasOk (B + 1000000) gr gma he := by
    obtain ⟨a0, a1, a2, a3, b0, b1, s⟩ := h
    exact ⟨a0, a1, a2, a3, b0, b1, by omega⟩
  unfold f_DR_start f_Tank_bring at w
  simp only at w
  by_cases c1 : f_DR_isPart p1 = 0
  · simp only [if_pos c1] at w; cases w; exact keep
  · by_cases c2 : f_DR_within p2 0 1000000 = 0
    · simp only [if_neg c1, if_pos c2] at w; cases w; exact keep
    · simp only [if_neg c1, if_neg c2] at w
      split at w
      · cases w
        obtain ⟨k, hk, e1⟩ := vp_in_of (in_isPart rfl c1) (by decide)
        have b2 := within_t rfl c2
        rw [t_0, show (1000000 : Int32).toInt = 1000000 by decide] at b2
        subst e1
        rw [nI_clamp (by omega)]
        obtain ⟨a0, a1, a2, a3, b0, b1, s⟩ := h
        have gb := Int64.le_toInt gma
        have e : ∀ i, i < 4 → (gr i + Int32.toInt64 p2).toInt = (gr i).toInt + p2.toInt := fun i hi => by
          have hb : 0 ≤ (gr i).toInt ∧ (gr i).toInt ≤ 900000000000 := by
            rcases (show i = 0 ∨ i = 1 ∨ i = 2 ∨ i = 3 by omega) with z | z | z | z <;> subst z <;> omega
          rw [l_add] <;> rw [ext_i] <;> omega
        have ek := e k hk
        rcases (show k = 0 ∨ k = 1 ∨ k = 2 ∨ k = 3 by omega) with z | z | z | z <;> subst z <;> simp only [GasOk, vp_updL] <;> simp [-Int64.toInt_add, -Int64.toInt_sub] <;> rw [ek] <;> omega
      · cases w; exact keep
theorem feed_told {nm tc tc' p1 p2 p3 r : Int32} {tm tk tg tm' tk' tg' : Nat → Int32} (h : ToldOk tc tk tg) (w : f_DR_feed nm tc tm tk tg p1 p2 p3 = (r, tc', tm', tk', tg')) : ToldOk tc' tk' tg' := by
  unfold f_DR_feed at w
  simp only at w
  by_cases c1 : f_DR_within p1 nm 9999 = 0
  · simp only [if_pos c1] at w; cases w; exact h
  · by_cases c2 : f_DR_isKind p2 = 0
    · simp only [if_neg c1, if_pos c2] at w; cases w; exact h
    · by_cases c3 : f_DR_within p3 1 100000 = 0
      · simp only [if_neg c1, if_neg c2, if_pos c3] at w; cases w; exact h
      · by_cases c4 : f_Told_hasRoomFor tc 1 = 0
        · simp only [if_neg c1, if_neg c2, if_neg c3, if_pos c4] at w; cases w; exact h
        · have h30 := in_told h.1 rfl c4
          simp only [if_neg c1, if_neg c2, if_neg c3, if_neg c4, add_room h30] at w
          cases w
          have b3 := within_t rfl c3
          rw [t_1, show (100000 : Int32).toInt = 100000 by decide] at b3
          exact told_more h h30 (in_isKind rfl c2) ⟨by omega, b3.2⟩
def RtOk (rt : Nat → Int32) : Prop := ∀ i, i < 3 → 0 ≤ (rt i).toInt ∧ (rt i).toInt ≤ 1000000
theorem rate_ok {rt rt' : Nat → Int32} {p1 p2 r : Int32} (h : RtOk rt) (w : f_DR_rate rt p1 p2 = (r, rt')) : RtOk rt' := by
  unfold f_DR_rate at w
  simp only at w
  by_cases c1 : f_DR_within p1 0 2 = 0
  · simp only [if_pos c1] at w; cases w; exact h
  · by_cases c2 : f_DR_within p2 0 1000000 = 0
    · simp only [if_neg c1, if_pos c2] at w; cases w; exact h
    · simp only [if_neg c1, if_neg c2] at w
      cases w
      have b2 := within_t rfl c2
      rw [t_0, show (1000000 : Int32).toInt = 1000000 by decide] at b2
      intro i hi
      unfold upd; split
      · exact b2
      · exact h i hi
theorem bound_ok {sb sb' p r : Int32} (h : 1 ≤ sb.toInt) (w : f_DR_bound sb p = (r, sb')) : 1 ≤ sb'.toInt := by
  unfold f_DR_bound at w
  simp only at w
  by_cases c : f_DR_within p 1 1000000000 = 0
  · simp only [if_pos c] at w; cases w; exact h
  · simp only [if_neg c] at w
    cases w
    have b := within_t rfl c
    rw [t_1] at b; exact b.1
theorem room_ok {mo mo' p r : Int32} (h : 0 ≤ mo.toInt) (w : f_DR_room mo p = (r, mo')) : 0 ≤ mo'.toInt := by
  unfold f_DR_room at w
  simp only at w
  by_cases c : f_DR_within p 0 1000000000 = 0
  · simp only [if_pos c] at w; cases w; exact h
  · simp only [if_neg c] at w
    cases w
    have b := within_t rfl c
    rw [t_0] at b; exact b.1
