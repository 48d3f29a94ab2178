/-! plans: both searches find the cheapest, and of those the first -/
def wt (w k : Nat) : Nat := if k = 0 then w / 1000 else if k = 1 then w / 100 % 10 else if k = 2 then w / 10 % 10 else w % 10
def wsum (w : Nat) (L : Nat → Nat) : Nat := wt w 0 * L 0 + wt w 1 * L 1 + wt w 2 * L 2 + wt w 3 * L 3
theorem nI_inj_i {x : Int32} {n : Nat} (hn : n < 2 ^ 31) (h : x.toInt = (n : Int)) : x = nI n := Int32.toInt_inj.mp (by rw [h, nI_toInt hn])
theorem wt_lt {w k : Nat} (hw : w < 10000) : wt w k ≤ 9 := by
  unfold wt; split
  · omega
  · split
    · omega
    · split <;> omega
theorem timesOf_n {w k : Nat} (hw : w < 10000) (hk : k < 4) : f_Mo_timesOf (nI w) (nI k) = nI (wt w k) := by
  have hwi : (nI w).toInt = (w : Int) := nI_toInt (by omega)
  have hki : (nI k).toInt = (k : Int) := nI_toInt (by omega)
  have h9 := wt_lt (k := k) hw
  refine nI_inj_i (by omega) ?_
  rw [timesOf_i (vp_in_nI hw (by omega)), hki]
  unfold tm_i wt
  rw [hwi]
  rcases (show k = 0 ∨ k = 1 ∨ k = 2 ∨ k = 3 by omega) with q | q | q | q <;> subst q <;> simp <;> omega
/-- the loads as they are told: cents and gas; a load that is not told brings nothing -/
def LoadOk (lg lc lx hl : Nat → Int32) (LC LX : Nat → Nat) : Prop := ∀ k, k < 4 → lc k = nI (LC k) ∧ LC k ≤ 100000 ∧ lx k = nI (LX k) ∧ LX k ≤ 100000 ∧ (lg k ≤ 0 → LX k = 0) ∧ (hl k = if lg k ≤ 0 then 0 else 1)
def wval (lg : Nat → Int32) (LX : Nat → Nat) (P w : Nat) : Prop := P ≤ wsum w LX ∧ ∀ k, k < 4 → wt w k = 0 ∨ ¬ lg k ≤ 0
def SelN (V : Nat → Prop) (B : Nat → Prop) : Prop := ∀ v, B v → ¬ V v
def SelS (V : Nat → Prop) (C : Nat → Nat) (B : Nat → Prop) (w : Nat) : Prop := V w ∧ B w ∧ ∀ v, B v → V v → C w < C v ∨ (C w = C v ∧ w ≤ v)
theorem sel_unique {V : Nat → Prop} {C : Nat → Nat} {B B' : Nat → Prop} (hB : ∀ v, B v ↔ B' v) {w w' : Nat} (h : SelS V C B w) (h' : SelS V C B' w') : w = w' := by
  have a := h.2.2 w' ((hB _).mpr h'.2.1) h'.1
  have b := h'.2.2 w ((hB _).mp h.2.1) h.1
  omega
theorem sel_none {V : Nat → Prop} {C : Nat → Nat} {B B' : Nat → Prop} (hB : ∀ v, B v ↔ B' v) {w : Nat} (h : SelS V C B w) (h' : SelN V B') : False := h' w ((hB _).mp h.2.1) h.1
theorem selN_more {V : Nat → Prop} {B B' : Nat → Prop} (h : SelN V B) (hB : ∀ v, B' v → B v ∨ ¬ V v) : SelN V B' := fun v hv => (hB v hv).elim (fun q => h v q) id
theorem selS_more {V : Nat → Prop} {C : Nat → Nat} {B B' : Nat → Prop} {w : Nat} (h : SelS V C B w) (h1 : ∀ v, B v → B' v) (hB : ∀ v, B' v → B v ∨ ¬ V v ∨ C w < C v ∨ (C w = C v ∧ w ≤ v)) : SelS V C B' w :=
  ⟨h.1, h1 _ h.2.1, fun v hv hV => (hB v hv).elim (fun q => h.2.2 v q hV) (fun q => q.elim (fun z => absurd hV z) id)⟩
theorem wsum_le {w : Nat} (hw : w < 10000) {L : Nat → Nat} (hL : ∀ k, k < 4 → L k ≤ 100000) : wsum w L ≤ 3600000 := by
  have m : ∀ k, k < 4 → wt w k * L k ≤ 9 * 100000 := fun k hk => Nat.mul_le_mul (wt_lt hw) (hL k hk)
  have m0 := m 0 (by decide); have m1 := m 1 (by decide); have m2 := m 2 (by decide); have m3 := m 3 (by decide)
  unfold wsum; omega
/-! the reference -/
def cn1 (c : Int32) (t : Nat) (l : Int32) : Int32 := if c = 0 then 0 else if t = 0 then 1 else if l ≤ 0 then 0 else 1
theorem cn1_0 (c : Int32) (t : Nat) (l : Int32) : cn1 c t l = 0 ↔ c = 0 ∨ ¬ (t = 0 ∨ ¬ l ≤ 0) := by
  unfold cn1
  by_cases a : c = 0
  · simp [a]
  · by_cases b : t = 0
    · simp [a, b]
    · by_cases d : l ≤ 0 <;> simp [a, b, d]
theorem mo_inner {lg lc lx hl : Nat → Int32} {LC LX : Nat → Nat} (hL : LoadOk lg lc lx hl LC LX) (k21 : Int32 → Int32 → Int32 → Int32 × Int32 × Int32) (p1 bs le : Int32) {w : Nat} (hw : w < 10000) {k : Nat} (hk : k < 4) (n ce bg : Nat) (cn : Int32) :
    f_Mo_plan_L41 k21 hl lc lx p1 bs le (nI w) (n + 1) (nI ce) (nI bg) cn (nI k) = f_Mo_plan_L41 k21 hl lc lx p1 bs le (nI w) n (nI (ce + wt w k * LC k)) (nI (bg + wt w k * LX k)) (cn1 cn (wt w k) (lg k)) (nI (k + 1)) := by
  obtain ⟨l1, l2, l3, l4, l5, l6⟩ := hL k hk
  have h9 := wt_lt (k := k) hw
  have c4 : ¬ (4 : Int32) ≤ nI k := by rw [Int32.le_iff_toInt_le, nI_toInt (by omega), t_4]; omega
  have ec : nI ce + nI (wt w k) * nI (LC k) = nI (ce + wt w k * LC k) := by rw [pk_mul, nI_add]
  have eb : nI bg + nI (wt w k) * nI (LX k) = nI (bg + wt w k * LX k) := by rw [pk_mul, nI_add]
  have ez : (nI (wt w k) = 0) = (wt w k = 0) := propext ⟨fun q => by rw [← nI_0] at q; exact (nI_eq (by omega) (by omega)).mp q, fun q => by rw [q, nI_0]⟩
  have hcl : (nI k).toNatClampNeg = k := nI_clamp (by omega)
  rw [f_Mo_plan_L41]
  simp only [if_neg c4, timesOf_n hw hk, hcl, l1, l3, ec, eb, ez, l6, nI_1, cn1]
  by_cases q1 : cn = 0
  · simp only [if_pos q1]
  · simp only [if_neg q1]
    by_cases q2 : wt w k = 0
    · simp only [if_pos q2]
    · simp only [if_neg q2]
      by_cases q3 : lg k ≤ 0
      · simp [if_pos q3]
      · simp [if_neg q3]
theorem mo_can {lg : Nat → Int32} {w : Nat} : cn1 (cn1 (cn1 (cn1 1 (wt w 0) (lg 0)) (wt w 1) (lg 1)) (wt w 2) (lg 2)) (wt w 3) (lg 3) = 0 ↔ ¬ ∀ k, k < 4 → wt w k = 0 ∨ ¬ lg k ≤ 0 := by
  have all4 : (∀ k, k < 4 → wt w k = 0 ∨ ¬ lg k ≤ 0) ↔ (wt w 0 = 0 ∨ ¬ lg 0 ≤ 0) ∧ (wt w 1 = 0 ∨ ¬ lg 1 ≤ 0) ∧ (wt w 2 = 0 ∨ ¬ lg 2 ≤ 0) ∧ (wt w 3 = 0 ∨ ¬ lg 3 ≤ 0) := by
    constructor
    · intro h; exact ⟨h 0 (by decide), h 1 (by decide), h 2 (by decide), h 3 (by decide)⟩
    · intro h k hk
      rcases (show k = 0 ∨ k = 1 ∨ k = 2 ∨ k = 3 by omega) with q | q | q | q <;> subst q
      · exact h.1
      · exact h.2.1
      · exact h.2.2.1
      · exact h.2.2.2
  rw [all4, cn1_0, cn1_0, cn1_0, cn1_0]
  have z : ¬ (1 : Int32) = 0 := by decide
  generalize (wt w 0 = 0 ∨ ¬ lg 0 ≤ 0) = A0
  generalize (wt w 1 = 0 ∨ ¬ lg 1 ≤ 0) = A1
  generalize (wt w 2 = 0 ∨ ¬ lg 2 ≤ 0) = A2
  generalize (wt w 3 = 0 ∨ ¬ lg 3 ≤ 0) = A3
  by_cases a0 : A0 <;> by_cases a1 : A1 <;> by_cases a2 : A2 <;> by_cases a3 : A3 <;> simp [a0, a1, a2, a3, z]
theorem mo_way {lg lc lx hl : Nat → Int32} {LC LX : Nat → Nat} (hL : LoadOk lg lc lx hl LC LX) (k21 : Int32 → Int32 → Int32 → Int32 × Int32 × Int32) {P : Nat} (hP : P ≤ 1000000) (bs le : Int32) {w : Nat} (hw : w < 10000) :
    (wval lg LX P w → f_Mo_plan_L41 k21 hl lc lx (nI P) bs le (nI w) 5 0 0 1 0 = if bs < 0 then k21 (nI w) (nI (wsum w LC)) (nI (w + 1)) else if le ≤ nI (wsum w LC) then k21 bs le (nI (w + 1)) else k21 (nI w) (nI (wsum w LC)) (nI (w + 1))) ∧
    (¬ wval lg LX P w → f_Mo_plan_L41 k21 hl lc lx (nI P) bs le (nI w) 5 0 0 1 0 = k21 bs le (nI (w + 1))) := by
  have hx : ∀ k, k < 4 → LX k ≤ 100000 := fun k hk => (hL k hk).2.2.2.1
  have hb := wsum_le hw hx
  have s0 := mo_inner hL k21 (nI P) bs le hw (k := 0) (by decide) 4 0 0 1
  rw [nI_0] at s0
  rw [s0, mo_inner hL k21 (nI P) bs le hw (k := 0 + 1) (by decide) 3, mo_inner hL k21 (nI P) bs le hw (k := 0 + 1 + 1) (by decide) 2, mo_inner hL k21 (nI P) bs le hw (k := 0 + 1 + 1 + 1) (by decide) 1]
  have c4 : (4 : Int32) ≤ nI (0 + 1 + 1 + 1 + 1) := by decide
  have hc := mo_can (lg := lg) (w := w)
  have hlt : (nI (wsum w LX) < nI P) ↔ wsum w LX < P := nI_ltI (by omega) (by omega)
  rw [f_Mo_plan_L41, if_pos c4]
  have es : ∀ L : Nat → Nat, 0 + wt w 0 * L 0 + wt w (0 + 1) * L (0 + 1) + wt w (0 + 1 + 1) * L (0 + 1 + 1) + wt w (0 + 1 + 1 + 1) * L (0 + 1 + 1 + 1) = wsum w L := fun L => by simp [wsum]
  rw [es LX, es LC, nI_1]
  have hc2 : (cn1 (cn1 (cn1 (cn1 1 (wt w 0) (lg 0)) (wt w (0 + 1)) (lg (0 + 1))) (wt w (0 + 1 + 1)) (lg (0 + 1 + 1))) (wt w (0 + 1 + 1 + 1)) (lg (0 + 1 + 1 + 1)) = 0) ↔ ¬ ∀ k, k < 4 → wt w k = 0 ∨ ¬ lg k ≤ 0 := hc
  generalize cn1 (cn1 (cn1 (cn1 1 (wt w 0) (lg 0)) (wt w (0 + 1)) (lg (0 + 1))) (wt w (0 + 1 + 1)) (lg (0 + 1 + 1))) (wt w (0 + 1 + 1 + 1)) (lg (0 + 1 + 1 + 1)) = cn at hc2 ⊢
  constructor
  · intro v
    rw [if_neg (fun q => (hc2.mp q) v.2), if_neg (fun q => absurd (hlt.mp q) (by have := v.1; omega))]
  · intro v
    by_cases q : ∀ k, k < 4 → wt w k = 0 ∨ ¬ lg k ≤ 0
    · rw [if_neg (fun z => hc2.mp z q), if_pos (hlt.mpr (Nat.lt_of_not_le (fun z => v ⟨z, q⟩)))]
    · rw [if_pos (hc2.mpr q)]
def mo_St (lg : Nat → Int32) (LC LX : Nat → Nat) (P n : Nat) (bs le : Int32) : Prop :=
  (bs = -1 ∧ SelN (wval lg LX P) (fun v => v < n)) ∨ ∃ w, w < 10000 ∧ bs = nI w ∧ le = nI (wsum w LC) ∧ SelS (wval lg LX P) (fun w => wsum w LC) (fun v => v < n) w
theorem mo_loop {lg lc lx hl : Nat → Int32} {LC LX : Nat → Nat} (hL : LoadOk lg lc lx hl LC LX) (hp pl : Int32) {P : Nat} (hP : P ≤ 1000000) :
    ∀ (n w : Nat) (bs le : Int32), w ≤ 10000 → 10000 - w < n → mo_St lg LC LX P w bs le →
      (f_Mo_plan_L21 hp pl hl lc lx (nI P) n bs le (nI w) = (-1, hp, pl) ∧ SelN (wval lg LX P) (fun v => v < 10000)) ∨ ∃ b, b < 10000 ∧ f_Mo_plan_L21 hp pl hl lc lx (nI P) n bs le (nI w) = (nI (wsum b LC), 1, nI b) ∧ SelS (wval lg LX P) (fun w => wsum w LC) (fun v => v < 10000) b := by
  have hxc : ∀ k, k < 4 → LC k ≤ 100000 := fun k hk => (hL k hk).2.1
  intro n
  induction n with
  | zero => intro w bs le _ h; exact absurd h (Nat.not_lt_zero _)
  | succ n ih =>
    intro w bs le hw hn hs
    rw [f_Mo_plan_L21]
    by_cases c : w = 10000
    · subst c
      rw [if_pos (show (10000 : Int32) ≤ nI 10000 by decide)]
      rcases hs with ⟨e, h⟩ | ⟨b, hb, e1, e2, h⟩
      · left
        rw [e, if_neg (show ¬ (0 : Int32) ≤ -1 by decide)]
        exact ⟨rfl, h⟩
      · right
        rw [e1, e2, if_pos (nI_pos' (by omega))]
        exact ⟨b, hb, rfl, h⟩
    · have c2 : ¬ (10000 : Int32) ≤ nI w := by rw [Int32.le_iff_toInt_le, nI_toInt (by omega), t_10000]; omega
      rw [if_neg c2]
      have hw2 : w < 10000 := by omega
      obtain ⟨m1, m2⟩ := mo_way hL (f_Mo_plan_L21 hp pl hl lc lx (nI P) n) hP bs le hw2
      have hcw := wsum_le hw2 hxc
      by_cases v : wval lg LX P w
      · rw [m1 v]
        rcases hs with ⟨e, h⟩ | ⟨b, hb, e1, e2, h⟩
        · rw [e, if_pos (show (-1 : Int32) < 0 by decide)]
          refine ih (w + 1) _ _ (by omega) (by omega) (Or.inr ⟨w, hw2, rfl, rfl, v, by omega, fun x hx hV => ?_⟩)
          rcases Nat.lt_or_ge x w with z | z
          · exact absurd hV (h x z)
          · have : x = w := by omega
            subst this; right; exact ⟨rfl, Nat.le_refl _⟩
        · have hcb := wsum_le hb hxc
          rw [e1, if_neg (nI_pos (by omega)), e2]
          by_cases d : wsum b LC ≤ wsum w LC
          · rw [if_pos ((nI_leI (by omega) (by omega)).mpr d)]
            refine ih (w + 1) _ _ (by omega) (by omega) (Or.inr ⟨b, hb, rfl, rfl, selS_more h (fun x hx => by omega) (fun x hx => ?_)⟩)
            rcases Nat.lt_or_ge x w with z | z
            · exact Or.inl z
            · have : x = w := by omega
              subst this
              have hbw := h.2.1
              rcases Nat.lt_or_ge (wsum b LC) (wsum x LC) with y | y
              · exact Or.inr (Or.inr (Or.inl y))
              · exact Or.inr (Or.inr (Or.inr ⟨by omega, by omega⟩))
          · rw [if_neg (fun q => d ((nI_leI (by omega) (by omega)).mp q))]
            refine ih (w + 1) _ _ (by omega) (by omega) (Or.inr ⟨w, hw2, rfl, rfl, v, by omega, fun x hx hV => ?_⟩)
            rcases Nat.lt_or_ge x w with z | z
            · have := h.2.2 x z hV
              left; show wsum w LC < wsum x LC
              have q : wsum b LC < wsum x LC ∨ (wsum b LC = wsum x LC ∧ b ≤ x) := this
              omega
            · have : x = w := by omega
              subst this; right; exact ⟨rfl, Nat.le_refl _⟩
      · rw [m2 v]
        have more : ∀ x, x < w + 1 → x < w ∨ ¬ wval lg LX P x := fun x hx => by
          rcases Nat.lt_or_ge x w with z | z
          · exact Or.inl z
          · have : x = w := by omega
            subst this; exact Or.inr v
        refine ih (w + 1) _ _ (by omega) (by omega) ?_
        rcases hs with ⟨e, h⟩ | ⟨b, hb, e1, e2, h⟩
        · exact Or.inl ⟨e, selN_more h more⟩
        · exact Or.inr ⟨b, hb, e1, e2, selS_more h (fun x hx => by omega) (fun x hx => (more x hx).elim Or.inl (fun z => Or.inr (Or.inl z)))⟩
/-! the class -/
def lt_of (w : Nat) (lt0 : Nat → Int32) : Nat → Int32 := upd (upd (upd (upd lt0 0 (nI (wt w 0))) 1 (nI (wt w 1))) 2 (nI (wt w 2))) 3 (nI (wt w 3))
theorem upd4_over (f : Nat → Int32) (a b c d a' b' c' d' : Int32) : upd (upd (upd (upd (upd (upd (upd (upd f 0 a) 1 b) 2 c) 3 d) 0 a') 1 b') 2 c') 3 d' = upd (upd (upd (upd f 0 a') 1 b') 2 c') 3 d' := by
  funext j
  unfold upd
  by_cases j3 : j = 3
  · simp [j3]
  · by_cases j2 : j = 2
    · simp [j2]
    · by_cases j1 : j = 1
      · simp [j1]
      · by_cases j0 : j = 0
        · simp [j0]
        · simp [j0, j1, j2, j3]
theorem wt_digits {a b c d : Nat} (ha : a ≤ 9) (hb : b ≤ 9) (hc : c ≤ 9) (hd : d ≤ 9) : wt (10 * (100 * a + 10 * b + c) + d) 0 = a ∧ wt (10 * (100 * a + 10 * b + c) + d) 1 = b ∧ wt (10 * (100 * a + 10 * b + c) + d) 2 = c ∧ wt (10 * (100 * a + 10 * b + c) + d) 3 = d := by
  unfold wt
  refine ⟨?_, ?_, ?_, ?_⟩ <;> simp <;> omega
theorem keep_eq {lt lt0 : Nat → Int32} (h : lt = lt0 ∨ ∃ v, lt = lt_of v lt0) {a b c d : Nat} (ha : a ≤ 9) (hb : b ≤ 9) (hc : c ≤ 9) (hd : d ≤ 9) : f_Planner_keep lt (nI a) (nI b) (nI c) (nI d) = (1, lt_of (10 * (100 * a + 10 * b + c) + d) lt0) := by
  obtain ⟨e0, e1, e2, e3⟩ := wt_digits ha hb hc hd
  unfold f_Planner_keep lt_of
  rw [e0, e1, e2, e3]
  rcases h with rfl | ⟨v, rfl⟩
  · rfl
  · unfold lt_of; rw [upd4_over]
theorem few_spec {lx : Nat → Int32} {X P G : Nat} (h3 : lx 3 = nI X) (hX : X ≤ 100000) (hP : P ≤ 1000000) (hG : G ≤ 2700000) :
    (f_Planner_fewestOfLast lx (nI P - nI G) = -1 ∧ ∀ d, d ≤ 9 → G + d * X < P) ∨ ∃ d, d ≤ 9 ∧ f_Planner_fewestOfLast lx (nI P - nI G) = nI d ∧ (d = 0 ∨ 0 < X) ∧ P ≤ G + d * X ∧ ∀ d', d' < d → G + d' * X < P := by
  unfold f_Planner_fewestOfLast
  rw [h3]
  by_cases q : P ≤ G
  · right
    have e : (nI P - nI G).toInt = (P : Int) - G := pk_sub_toInt (by omega) (by omega)
    have c : ¬ 0 < nI P - nI G := by rw [Int32.lt_iff_toInt_lt, e, t_0]; omega
    rw [if_neg c]
    exact ⟨0, by decide, nI_0.symm, Or.inl rfl, by omega, fun d' h => absurd h (Nat.not_lt_zero _)⟩
  · rw [pk_sub (by omega)]
    have c : 0 < nI (P - G) := by rw [← nI_0]; exact nI_lt (by omega) (by omega)
    rw [if_pos c]
    by_cases z : X = 0
    · subst z
      left
      rw [if_neg (show ¬ 0 < nI 0 by decide)]
      exact ⟨rfl, fun d _ => by omega⟩
    · have c2 : 0 < nI X := by rw [← nI_0]; exact nI_lt (by omega) (by omega)
      have e : (nI (P - G) + nI X - 1) / nI X = nI ((P - G + X - 1) / X) := by
        rw [nI_add, show (1 : Int32) = nI 1 from rfl, pk_sub (by omega), pk_div (by omega) (by omega) (by omega)]
      rw [if_pos c2, e]
      have hXp : 0 < X := by omega
      have d1 : (P - G + X - 1) / X * X ≤ P - G + X - 1 := Nat.div_mul_le_self _ _
      have d2 : P - G + X - 1 < ((P - G + X - 1) / X + 1) * X := by
        have := Nat.lt_mul_div_succ (P - G + X - 1) hXp
        rw [Nat.mul_comm]; exact this
      generalize (P - G + X - 1) / X = t at d1 d2 ⊢
      rw [Nat.add_mul, Nat.one_mul] at d2
      by_cases u : 9 < t
      · left
        have tb : t < 2 ^ 31 := by
          rcases Nat.lt_or_ge t (2 ^ 31) with y | y
          · exact y
          · have := Nat.le_mul_of_pos_right t hXp
            omega
        rw [if_pos (show (9 : Int32) < nI t by rw [show (9 : Int32) = nI 9 from rfl]; exact nI_lt u tb)]
        refine ⟨rfl, fun d hd => ?_⟩
        have m : (d + 1) * X ≤ t * X := Nat.mul_le_mul_right X (by omega)
        rw [Nat.add_mul, Nat.one_mul] at m
        omega
      · right
        rw [if_neg (show ¬ (9 : Int32) < nI t by rw [show (9 : Int32) = nI 9 from rfl]; exact nI_nlt (by omega) (by omega))]
        refine ⟨t, by omega, rfl, Or.inr hXp, by omega, fun d' hd => ?_⟩
        have m : (d' + 1) * X ≤ t * X := Nat.mul_le_mul_right X hd
        rw [Nat.add_mul, Nat.one_mul] at m
        omega
def cs_St (lg : Nat → Int32) (LC LX : Nat → Nat) (P n : Nat) (fo0 : Int32) (lt0 : Nat → Int32) (ls fo : Int32) (lt : Nat → Int32) : Prop :=
  (ls = -1 ∧ fo = fo0 ∧ lt = lt0 ∧ SelN (wval lg LX P) (fun v => v < 10 * n)) ∨ ∃ w, w < 10000 ∧ ls = nI (wsum w LC) ∧ fo = 1 ∧ lt = lt_of w lt0 ∧ SelS (wval lg LX P) (fun w => wsum w LC) (fun v => v < 10 * n) w
/-- ways that can't be are no loss -/
theorem cs_skip {lg : Nat → Int32} {LC LX : Nat → Nat} {P n n' : Nat} {fo0 : Int32} {lt0 : Nat → Int32} {ls fo : Int32} {lt : Nat → Int32} (h : cs_St lg LC LX P n fo0 lt0 ls fo lt) (hn : n ≤ n') (hv : ∀ v, 10 * n ≤ v → v < 10 * n' → ¬ wval lg LX P v) : cs_St lg LC LX P n' fo0 lt0 ls fo lt := by
  have more : ∀ v, v < 10 * n' → v < 10 * n ∨ ¬ wval lg LX P v := fun v h2 => by
    rcases Nat.lt_or_ge v (10 * n) with z | z
    · exact Or.inl z
    · exact Or.inr (hv v z h2)
  rcases h with ⟨e1, e2, e3, s⟩ | ⟨w, hw, e1, e2, e3, s⟩
  · exact Or.inl ⟨e1, e2, e3, selN_more s more⟩
  · exact Or.inr ⟨w, hw, e1, e2, e3, selS_more s (fun v hv => by omega) (fun v hv => (more v hv).elim Or.inl (fun z => Or.inr (Or.inl z)))⟩
theorem most_n {lg : Nat → Int32} (i : Int32) {k : Nat} (hi : i.toNatClampNeg = k) : f_Planner_mostTimes lg i = nI (if lg k ≤ 0 then 0 else 9) := by
  unfold f_Planner_mostTimes; rw [hi]; split <;> rfl
theorem wsum_digits {a b c d : Nat} (ha : a ≤ 9) (hb : b ≤ 9) (hc : c ≤ 9) (hd : d ≤ 9) (L : Nat → Nat) : wsum (10 * (100 * a + 10 * b + c) + d) L = (a * L 0 + b * L 1 + c * L 2) + d * L 3 := by
  obtain ⟨e0, e1, e2, e3⟩ := wt_digits ha hb hc hd
  unfold wsum; rw [e0, e1, e2, e3]
theorem sum_n {row : Nat → Int32} {L : Nat → Nat} (h : ∀ k, k < 4 → row k = nI (L k)) (a b c : Nat) : f_Planner_sum row (nI a) (nI b) (nI c) = nI (a * L 0 + b * L 1 + c * L 2) := by
  unfold f_Planner_sum
  rw [h 0 (by decide), h 1 (by decide), h 2 (by decide), pk_mul, pk_mul, pk_mul, nI_add, nI_add]
theorem nI_ne_m1 {n : Nat} (h : n < 2 ^ 31) : ¬ nI n = -1 := fun q => by
  have a := nI_toInt h
  rw [q, t_m1] at a
  omega
/-- one way of feeding kinds 0 to 2, with the fewest loads of kind 3 -/
theorem cs_one {lg lc lx hl : Nat → Int32} {LC LX : Nat → Nat} (hL : LoadOk lg lc lx hl LC LX) {P : Nat} (hP : P ≤ 1000000) {fo0 : Int32} {lt0 : Nat → Int32} (k16 : Int32 → Int32 → Int32 → (Nat → Int32) → Int32 × Int32 × (Nat → Int32))
    {a b c : Nat} (ha : a ≤ 9) (hb : b ≤ 9) (hc : c ≤ (if lg 2 ≤ 0 then 0 else 9)) (va : a = 0 ∨ ¬ lg 0 ≤ 0) (vb : b = 0 ∨ ¬ lg 1 ≤ 0) {ls fo : Int32} {lt : Nat → Int32} (h : cs_St lg LC LX P (100 * a + 10 * b + c) fo0 lt0 ls fo lt) (n : Nat) :
    ∃ ls' fo' lt', f_Planner_find_L29 k16 lg lc lx (nI P) (nI a) (nI b) (n + 1) ls (nI c) fo lt = f_Planner_find_L29 k16 lg lc lx (nI P) (nI a) (nI b) n ls' (nI (c + 1)) fo' lt' ∧ cs_St lg LC LX P (100 * a + 10 * b + (c + 1)) fo0 lt0 ls' fo' lt' := by
  have hc9 : c ≤ 9 := by split at hc <;> omega
  have vc : c = 0 ∨ ¬ lg 2 ≤ 0 := by
    by_cases q : lg 2 ≤ 0
    · rw [if_pos q] at hc; left; omega
    · exact Or.inr q
  have lcn : ∀ k, k < 4 → lc k = nI (LC k) := fun k hk => (hL k hk).1
  have lxn : ∀ k, k < 4 → lx k = nI (LX k) := fun k hk => (hL k hk).2.2.1
  have lcb : ∀ k, k < 4 → LC k ≤ 100000 := fun k hk => (hL k hk).2.1
  have lxb : ∀ k, k < 4 → LX k ≤ 100000 := fun k hk => (hL k hk).2.2.2.1
  have mb : ∀ (L : Nat → Nat), (∀ k, k < 4 → L k ≤ 100000) → a * L 0 + b * L 1 + c * L 2 ≤ 2700000 := fun L hl => by
    have m0 : a * L 0 ≤ 9 * 100000 := Nat.mul_le_mul ha (hl 0 (by decide))
    have m1 : b * L 1 ≤ 9 * 100000 := Nat.mul_le_mul hb (hl 1 (by decide))
    have m2 : c * L 2 ≤ 9 * 100000 := Nat.mul_le_mul hc9 (hl 2 (by decide))
    omega
  have hcond : ¬ f_Planner_mostTimes lg 2 < nI c := by
    rw [most_n (k := 2) 2 (by decide)]
    exact nI_nlt hc (by split <;> omega)
  have few := few_spec (lxn 3 (by decide)) (lxb 3 (by decide)) hP (mb LX lxb)
  have hway : ∀ v, v < 10 * (100 * a + 10 * b + (c + 1)) → v < 10 * (100 * a + 10 * b + c) ∨ ∃ d, d ≤ 9 ∧ v = 10 * (100 * a + 10 * b + c) + d := fun v hv => by
    rcases Nat.lt_or_ge v (10 * (100 * a + 10 * b + c)) with z | z
    · exact Or.inl z
    · exact Or.inr ⟨v - 10 * (100 * a + 10 * b + c), by omega, by omega⟩
  rw [f_Planner_find_L29]
  simp only [if_neg hcond, sum_n lxn a b c, sum_n lcn a b c, nI_1]
  rcases few with ⟨fe, fall⟩ | ⟨d, hd, fe, fx, fge, fmin⟩
  · simp only [fe, if_true]
    refine ⟨ls, fo, lt, rfl, ?_⟩
    rw [show 100 * a + 10 * b + (c + 1) = 100 * a + 10 * b + c + 1 by omega]
    refine cs_skip h (by omega) (fun v h1 h2 q => ?_)
    rcases hway v (by omega) with z | ⟨d, hd, rfl⟩
    · omega
    · have := q.1
      rw [wsum_digits ha hb hc9 hd] at this
      have := fall d hd
      omega
  · have hd3 : d * LC 3 ≤ 9 * 100000 := Nat.mul_le_mul hd (lcb 3 (by decide))
    have hcb := mb LC lcb
    have ecost : nI (a * LC 0 + b * LC 1 + c * LC 2) + nI d * lc 3 = nI (wsum (10 * (100 * a + 10 * b + c) + d) LC) := by
      rw [lcn 3 (by decide), pk_mul, nI_add, wsum_digits ha hb hc9 hd]
    have hcost : wsum (10 * (100 * a + 10 * b + c) + d) LC ≤ 3600000 := by rw [wsum_digits ha hb hc9 hd]; omega
    simp only [fe, if_neg (nI_ne_m1 (n := d) (by omega)), ecost, if_neg (nI_ne_m1 (n := wsum (10 * (100 * a + 10 * b + c) + d) LC) (by omega))]
    obtain ⟨e0, e1, e2, e3⟩ := wt_digits ha hb hc9 hd
    have hval : wval lg LX P (10 * (100 * a + 10 * b + c) + d) := by
      refine ⟨by rw [wsum_digits ha hb hc9 hd]; exact fge, fun k hk => ?_⟩
      rcases (show k = 0 ∨ k = 1 ∨ k = 2 ∨ k = 3 by omega) with q | q | q | q <;> subst q
      · rw [e0]; exact va
      · rw [e1]; exact vb
      · rw [e2]; exact vc
      · rw [e3]
        rcases fx with z | z
        · exact Or.inl z
        · right; intro y
          have := (hL 3 (by decide)).2.2.2.2.1 y
          omega
    have hmin : ∀ d', d' ≤ 9 → wval lg LX P (10 * (100 * a + 10 * b + c) + d') → d ≤ d' ∧ wsum (10 * (100 * a + 10 * b + c) + d) LC ≤ wsum (10 * (100 * a + 10 * b + c) + d') LC := fun d' hd' q => by
      have := q.1
      rw [wsum_digits ha hb hc9 hd'] at this
      have hle : d ≤ d' := by
        rcases Nat.lt_or_ge d' d with z | z
        · have := fmin d' z; omega
        · exact z
      refine ⟨hle, ?_⟩
      rw [wsum_digits ha hb hc9 hd, wsum_digits ha hb hc9 hd']
      have := Nat.mul_le_mul_right (LC 3) hle
      omega
    have hlt : lt = lt0 ∨ ∃ v, lt = lt_of v lt0 := by
      rcases h with ⟨-, -, z, -⟩ | ⟨w, -, -, -, z, -⟩
      · exact Or.inl z
      · exact Or.inr ⟨w, z⟩
    simp only [keep_eq hlt ha hb hc9 hd]
    rcases h with ⟨l1, l2, l3, s⟩ | ⟨w, hw, l1, l2, l3, s⟩
    · rw [if_pos l1]
      refine ⟨_, _, _, rfl, Or.inr ⟨_, by omega, rfl, rfl, rfl, hval, by omega, fun v hv hV => ?_⟩⟩
      rcases hway v hv with z | ⟨d', hd', rfl⟩
      · exact absurd hV (s v z)
      · have := hmin d' hd' hV
        rcases Nat.lt_or_ge (wsum (10 * (100 * a + 10 * b + c) + d) LC) (wsum (10 * (100 * a + 10 * b + c) + d') LC) with y | y
        · exact Or.inl y
        · exact Or.inr ⟨by show wsum _ LC = wsum _ LC; omega, by omega⟩
    · have hwb := wsum_le hw lcb
      rw [l1, if_neg (nI_ne_m1 (n := wsum w LC) (by omega))]
      by_cases y : wsum w LC ≤ wsum (10 * (100 * a + 10 * b + c) + d) LC
      · rw [if_pos ((nI_leI (by omega) (by omega)).mpr y)]
        refine ⟨_, _, _, rfl, Or.inr ⟨w, hw, rfl, l2, l3, selS_more s (fun v hv => by omega) (fun v hv => ?_)⟩⟩
        rcases hway v hv with z | ⟨d', hd', rfl⟩
        · exact Or.inl z
        · by_cases hV : wval lg LX P (10 * (100 * a + 10 * b + c) + d')
          · have := hmin d' hd' hV
            have hwn := s.2.1
            rcases Nat.lt_or_ge (wsum w LC) (wsum (10 * (100 * a + 10 * b + c) + d') LC) with x | x
            · exact Or.inr (Or.inr (Or.inl x))
            · exact Or.inr (Or.inr (Or.inr ⟨by omega, by omega⟩))
          · exact Or.inr (Or.inl hV)
      · rw [if_neg (fun q => y ((nI_leI (by omega) (by omega)).mp q))]
        refine ⟨_, _, _, rfl, Or.inr ⟨_, by omega, rfl, rfl, rfl, hval, by omega, fun v hv hV => ?_⟩⟩
        rcases hway v hv with z | ⟨d', hd', rfl⟩
        · have q : wsum w LC < wsum v LC ∨ (wsum w LC = wsum v LC ∧ w ≤ v) := s.2.2 v z hV
          left; show wsum _ LC < wsum v LC
          omega
        · have := hmin d' hd' hV
          rcases Nat.lt_or_ge (wsum (10 * (100 * a + 10 * b + c) + d) LC) (wsum (10 * (100 * a + 10 * b + c) + d') LC) with x | x
          · exact Or.inl x
          · exact Or.inr ⟨by show wsum _ LC = wsum _ LC; omega, by omega⟩
theorem cs_L29 {lg lc lx hl : Nat → Int32} {LC LX : Nat → Nat} (hL : LoadOk lg lc lx hl LC LX) {P : Nat} (hP : P ≤ 1000000) {fo0 : Int32} {lt0 : Nat → Int32} (k16 : Int32 → Int32 → Int32 → (Nat → Int32) → Int32 × Int32 × (Nat → Int32))
    {a b : Nat} (ha : a ≤ 9) (hb : b ≤ 9) (va : a = 0 ∨ ¬ lg 0 ≤ 0) (vb : b = 0 ∨ ¬ lg 1 ≤ 0) : ∀ (n c : Nat) (ls fo : Int32) (lt : Nat → Int32), c ≤ (if lg 2 ≤ 0 then 0 else 9) + 1 → (if lg 2 ≤ 0 then 0 else 9) + 1 - c < n → cs_St lg LC LX P (100 * a + 10 * b + c) fo0 lt0 ls fo lt →
      ∃ ls' fo' lt', f_Planner_find_L29 k16 lg lc lx (nI P) (nI a) (nI b) n ls (nI c) fo lt = k16 ls' (nI (b + 1)) fo' lt' ∧ cs_St lg LC LX P (100 * a + 10 * (b + 1)) fo0 lt0 ls' fo' lt' := by
  intro n
  induction n with
  | zero => intro c ls fo lt _ h; exact absurd h (Nat.not_lt_zero _)
  | succ n ih =>
    intro c ls fo lt hc hn h
    by_cases q : c = (if lg 2 ≤ 0 then 0 else 9) + 1
    · have hcond : f_Planner_mostTimes lg 2 < nI c := by
        rw [most_n (k := 2) 2 (by decide), q]
        exact nI_lt (by omega) (by split <;> omega)
      rw [f_Planner_find_L29]
      simp only [if_pos hcond, nI_1]
      refine ⟨ls, fo, lt, rfl, ?_⟩
      by_cases z : lg 2 ≤ 0
      · rw [if_pos z] at q
        subst q
        refine cs_skip h (by omega) (fun v h1 h2 w => ?_)
        have := w.2 2 (by decide)
        rcases this with y | y
        · unfold wt at y; simp at y; omega
        · exact y z
      · rw [if_neg z] at q
        subst q
        rw [show 100 * a + 10 * (b + 1) = 100 * a + 10 * b + (9 + 1) by omega]; exact h
    · obtain ⟨ls', fo', lt', e, h'⟩ := cs_one hL hP k16 ha hb (c := c) (by omega) va vb h n
      rw [e]
      exact ih (c + 1) ls' fo' lt' (by omega) (by omega) h'
theorem cs_L16 {lg lc lx hl : Nat → Int32} {LC LX : Nat → Nat} (hL : LoadOk lg lc lx hl LC LX) {P : Nat} (hP : P ≤ 1000000) {fo0 : Int32} {lt0 : Nat → Int32} (k4 : Int32 → Int32 → Int32 → (Nat → Int32) → Int32 × Int32 × (Nat → Int32))
    {a : Nat} (ha : a ≤ 9) (va : a = 0 ∨ ¬ lg 0 ≤ 0) : ∀ (n b : Nat) (ls fo : Int32) (lt : Nat → Int32), b ≤ (if lg 1 ≤ 0 then 0 else 9) + 1 → (if lg 1 ≤ 0 then 0 else 9) + 1 - b < n → cs_St lg LC LX P (100 * a + 10 * b) fo0 lt0 ls fo lt →
      ∃ ls' fo' lt', f_Planner_find_L16 k4 lg lc lx (nI P) (nI a) n ls (nI b) fo lt = k4 ls' (nI (a + 1)) fo' lt' ∧ cs_St lg LC LX P (100 * (a + 1)) fo0 lt0 ls' fo' lt' := by
  intro n
  induction n with
  | zero => intro b ls fo lt _ h; exact absurd h (Nat.not_lt_zero _)
  | succ n ih =>
    intro b ls fo lt hb hn h
    rw [f_Planner_find_L16]
    by_cases q : b = (if lg 1 ≤ 0 then 0 else 9) + 1
    · have hcond : f_Planner_mostTimes lg 1 < nI b := by
        rw [most_n (k := 1) 1 (by decide), q]
        exact nI_lt (by omega) (by split <;> omega)
      simp only [if_pos hcond, nI_1]
      refine ⟨ls, fo, lt, rfl, ?_⟩
      by_cases z : lg 1 ≤ 0
      · rw [if_pos z] at q
        subst q
        refine cs_skip h (by omega) (fun v h1 h2 w => ?_)
        have := w.2 1 (by decide)
        rcases this with y | y
        · unfold wt at y; simp at y; omega
        · exact y z
      · rw [if_neg z] at q
        subst q
        rw [show 100 * (a + 1) = 100 * a + 10 * (9 + 1) by omega]; exact h
    · have hb9 : b ≤ (if lg 1 ≤ 0 then 0 else 9) := by omega
      have hcond : ¬ f_Planner_mostTimes lg 1 < nI b := by
        rw [most_n (k := 1) 1 (by decide)]
        exact nI_nlt hb9 (by split <;> omega)
      have vb : b = 0 ∨ ¬ lg 1 ≤ 0 := by
        by_cases z : lg 1 ≤ 0
        · rw [if_pos z] at hb9; left; omega
        · exact Or.inr z
      have hb10 : b ≤ 9 := by split at hb9 <;> omega
      simp only [if_neg hcond]
      obtain ⟨ls', fo', lt', e, h'⟩ := cs_L29 hL hP (f_Planner_find_L16 k4 lg lc lx (nI P) (nI a) n) ha hb10 va vb 11 0 ls fo lt (by omega) (by split <;> omega) h
      rw [nI_0] at e
      rw [e]
      exact ih (b + 1) ls' fo' lt' (by omega) (by omega) h'
theorem cs_L4 {lg lc lx hl : Nat → Int32} {LC LX : Nat → Nat} (hL : LoadOk lg lc lx hl LC LX) {P : Nat} (hP : P ≤ 1000000) {fo0 : Int32} {lt0 : Nat → Int32} : ∀ (n a : Nat) (ls fo : Int32) (lt : Nat → Int32), a ≤ (if lg 0 ≤ 0 then 0 else 9) + 1 → (if lg 0 ≤ 0 then 0 else 9) + 1 - a < n → cs_St lg LC LX P (100 * a) fo0 lt0 ls fo lt →
      ∃ ls' fo' lt', f_Planner_find_L4 lg lc lx (nI P) n ls (nI a) fo lt = (ls', fo', lt') ∧ cs_St lg LC LX P 1000 fo0 lt0 ls' fo' lt' := by
  intro n
  induction n with
  | zero => intro a ls fo lt _ h; exact absurd h (Nat.not_lt_zero _)
  | succ n ih =>
    intro a ls fo lt ha hn h
    rw [f_Planner_find_L4]
    by_cases q : a = (if lg 0 ≤ 0 then 0 else 9) + 1
    · have hcond : f_Planner_mostTimes lg 0 < nI a := by
        rw [most_n (k := 0) 0 (by decide), q]
        exact nI_lt (by omega) (by split <;> omega)
      simp only [if_pos hcond]
      refine ⟨ls, fo, lt, rfl, ?_⟩
      by_cases z : lg 0 ≤ 0
      · rw [if_pos z] at q
        subst q
        refine cs_skip h (by omega) (fun v h1 h2 w => ?_)
        have := w.2 0 (by decide)
        rcases this with y | y
        · unfold wt at y; simp at y; omega
        · exact y z
      · rw [if_neg z] at q
        subst q
        exact h
    · have ha9 : a ≤ (if lg 0 ≤ 0 then 0 else 9) := by omega
      have hcond : ¬ f_Planner_mostTimes lg 0 < nI a := by
        rw [most_n (k := 0) 0 (by decide)]
        exact nI_nlt ha9 (by split <;> omega)
      have va : a = 0 ∨ ¬ lg 0 ≤ 0 := by
        by_cases z : lg 0 ≤ 0
        · rw [if_pos z] at ha9; left; omega
        · exact Or.inr z
      have ha10 : a ≤ 9 := by split at ha9 <;> omega
      simp only [if_neg hcond]
      obtain ⟨ls', fo', lt', e, h'⟩ := cs_L16 hL hP (f_Planner_find_L4 lg lc lx (nI P) n) ha10 va 11 0 ls fo lt (by omega) (by split <;> omega) h
      rw [nI_0] at e
      rw [e]
      exact ih (a + 1) ls' fo' lt' (by omega) (by omega) h'
/-- plan: class and reference -/
theorem eq_plan {lg lc lx hl : Nat → Int32} {LC LX : Nat → Nat} (hL : LoadOk lg lc lx hl LC LX) (fo hp pl : Int32) (lt : Nat → Int32) (p : Int32) :
    (f_DR_plan fo lg lc lx lt p = (-1, fo, lt) ∧ f_Mo_plan hp pl hl lc lx p = (-1, hp, pl)) ∨ ∃ w r, w < 10000 ∧ f_DR_plan fo lg lc lx lt p = (r, 1, lt_of w lt) ∧ f_Mo_plan hp pl hl lc lx p = (r, 1, nI w) := by
  unfold f_DR_plan f_Mo_plan
  simp only [isIn_within p 0 1000000 0 1000000 (by decide) (by decide)]
  by_cases c : f_DR_within p 0 1000000 = 0
  · left; simp only [if_pos c, and_self]
  · simp only [if_neg c]
    have hb := within_t rfl c
    rw [t_0, show (1000000 : Int32).toInt = 1000000 by decide] at hb
    obtain ⟨P, hP, rfl⟩ : ∃ P : Nat, P ≤ 1000000 ∧ p = nI P := ⟨p.toInt.toNat, by omega, nI_inj_i (by omega) (by omega)⟩
    have h0 : cs_St lg LC LX P (100 * 0) fo lt (-1) fo lt := Or.inl ⟨rfl, rfl, rfl, fun v hv => absurd hv (by omega)⟩
    obtain ⟨ls', fo', lt', e, h'⟩ := cs_L4 hL hP 11 0 (-1) fo lt (by omega) (by split <;> omega) h0
    have hm := mo_loop hL hp pl hP 10001 0 (-1) 0 (by omega) (by omega) (Or.inl ⟨rfl, fun v hv => absurd hv (Nat.not_lt_zero _)⟩)
    rw [nI_0] at e hm
    unfold f_Planner_find
    rw [e]
    have hB : ∀ v : Nat, v < 10 * 1000 ↔ v < 10000 := fun v => by omega
    rcases h' with ⟨l1, l2, l3, s⟩ | ⟨w, hw, l1, l2, l3, s⟩
    · rcases hm with ⟨m1, m2⟩ | ⟨b, hb2, m1, m2⟩
      · left; rw [m1, l1, l2, l3]; exact ⟨rfl, rfl⟩
      · exact (sel_none (fun v => (hB v).symm) m2 s).elim
    · rcases hm with ⟨m1, m2⟩ | ⟨b, hb2, m1, m2⟩
      · exact (sel_none hB s m2).elim
      · right
        have : w = b := sel_unique hB s m2
        subst this
        refine ⟨w, nI (wsum w LC), hw, ?_, m1⟩
        rw [l1, l2, l3]
theorem lt_of_at {w : Nat} (hw : w < 10000) (lt0 : Nat → Int32) {k : Nat} (hk : k < 4) : lt_of w lt0 k = nI (wt w k) := by
  unfold lt_of upd
  rcases (show k = 0 ∨ k = 1 ∨ k = 2 ∨ k = 3 by omega) with q | q | q | q <;> subst q <;> simp
