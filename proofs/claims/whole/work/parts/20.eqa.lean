/-! class and reference: the small calls answer alike -/
theorem isIn_within (a b c : Int32) (b' c' : Int64) (hb : b'.toInt = b.toInt) (hc : c'.toInt = c.toInt) : f_Mo_isIn (Int32.toInt64 a) b' c' = f_DR_within a b c := by
  have h1 : (lg_cmp (Int32.toInt64 a) b' < 0) = (a < b) := propext (by rw [lg_cmp_lt, Int64.lt_iff_toInt_lt, Int32.lt_iff_toInt_lt, ext_i, hb])
  have h2 : (0 < lg_cmp (Int32.toInt64 a) c') = (c < a) := propext (by rw [lg_cmp_gt, Int64.lt_iff_toInt_lt, Int32.lt_iff_toInt_lt, ext_i, hc])
  unfold f_Mo_isIn f_DR_within
  simp only [h1, h2]
theorem eq_isKind (p : Int32) : f_Mo_isKind p = f_DR_isKind p := by
  have h : (4 ≤ p) = (3 < p) := propext (by rw [Int32.le_iff_toInt_le, Int32.lt_iff_toInt_lt, t_4, t_3]; omega)
  unfold f_Mo_isKind f_DR_isKind f_DR_within
  simp only [h]
theorem sum5 (p a x y z : Int32) : (((p - a) + x) + y) + z = (((x + y) + z) - a) + p := by
  simp only [Int32.sub_eq_add_neg]; ac_rfl
theorem eq_kind (th : Nat → Int32) (p1 p2 p3 : Int32) : f_DR_kind th p1 p2 p3 = f_Mo_kind th p1 p2 p3 := by
  unfold f_DR_kind f_Mo_kind f_Shares_change f_Shares_of
  simp only [eq_isKind, isIn_within p2 0 2 0 2 (by decide) (by decide), isIn_within p3 0 1000 0 1000 (by decide) (by decide), sum5, Int32.add_zero, Int32.mul_comm p1 3]
theorem eq_start (cam : Int64) (gr : Nat → Int64) (p1 p2 : Int32) : f_DR_start cam gr p1 p2 = f_Mo_start cam gr p1 p2 := by
  unfold f_DR_start f_Mo_start f_Tank_bring f_DR_isPart
  simp only [isIn_within p1 0 3 0 3 (by decide) (by decide), isIn_within p2 0 1000000 0 1000000 (by decide) (by decide)]
theorem rm_one {tc : Int32} (h : vp_in tc 31) : (f_Told_hasRoomFor tc 1 = 0) = (tc = 30) := by
  rw [vp_in_iff] at h
  have e : (tc + 1).toInt = tc.toInt + 1 := by rw [i_add] <;> rw [t_1] <;> omega
  unfold f_Told_hasRoomFor
  apply propext
  constructor
  · intro q
    split at q
    · rename_i c
      rw [Int32.lt_iff_toInt_lt, e, t_30] at c
      exact Int32.toInt_inj.mp (by rw [t_30]; omega)
    · exact absurd q (by decide)
  · intro q
    rw [q]; decide
theorem eq_feed {tc : Int32} (h : vp_in tc 31) (nm : Int32) (tm tk tg : Nat → Int32) (p1 p2 p3 : Int32) : f_DR_feed nm tc tm tk tg p1 p2 p3 = f_Mo_feed tc nm tm tk tg p1 p2 p3 := by
  unfold f_DR_feed f_Mo_feed f_Told_add
  simp only [eq_isKind, isIn_within p1 nm 9999 (Int32.toInt64 nm) 9999 (ext_i nm) (by decide), isIn_within p3 1 100000 1 100000 (by decide) (by decide), rm_one h]
  split
  · rfl
  · split
    · rfl
    · split
      · rfl
      · split
        · rfl
        · rfl
theorem eq_rate (rt : Nat → Int32) (p1 p2 : Int32) : f_DR_rate rt p1 p2 = f_Mo_rate rt p1 p2 := by
  unfold f_DR_rate f_Mo_rate
  simp only [isIn_within p1 0 2 0 2 (by decide) (by decide), isIn_within p2 0 1000000 0 1000000 (by decide) (by decide)]
theorem eq_bound {sb p r sb2 : Int32} (w : f_DR_bound sb p = (r, sb2)) : f_Mo_bound (Int32.toInt64 sb) p = (r, Int32.toInt64 sb2) := by
  unfold f_DR_bound at w
  unfold f_Mo_bound
  simp only [isIn_within p 1 1000000000 1 1000000000 (by decide) (by decide)]
  rcases within_01 p 1 1000000000 with q | q
  · simp only [q] at w ⊢
    cases w; rfl
  · simp only [q] at w ⊢
    cases w; rfl
theorem eq_room {mo p r mo2 : Int32} (w : f_DR_room mo p = (r, mo2)) : f_Mo_room (Int32.toInt64 mo) p = (r, Int32.toInt64 mo2) := by
  unfold f_DR_room at w
  unfold f_Mo_room
  simp only [isIn_within p 0 1000000000 0 1000000000 (by decide) (by decide)]
  rcases within_01 p 0 1000000000 with q | q
  · simp only [q] at w ⊢
    cases w; rfl
  · simp only [q] at w ⊢
    cases w; rfl
theorem eq_at (gr : Nat → Int64) (p : Int32) : f_DR_at gr p = f_Mo_at gr p := by
  have h : (4 ≤ p) = (3 < p) := propext (by rw [Int32.le_iff_toInt_le, Int32.lt_iff_toInt_lt, t_4, t_3]; omega)
  unfold f_DR_at f_Mo_at f_DR_isPart f_DR_within
  simp only [h]
  split
  · rfl
  · split <;> rfl
theorem eq_given {us : Int32} (hu : vp_in us 5) (gv : Nat → Int64) (p : Int32) : f_DR_given us gv p = f_Mo_given us gv p := by
  rw [vp_in_iff] at hu
  have e : (us - 1).toInt = us.toInt - 1 := by rw [i_sub] <;> rw [t_1] <;> omega
  have h : (us - 1 < p) = (us ≤ p) := propext (by rw [Int32.le_iff_toInt_le, Int32.lt_iff_toInt_lt, e]; omega)
  unfold f_DR_given f_Mo_given f_DR_within
  simp only [h]
  split
  · rfl
  · split <;> rfl
theorem eq_gone (cam gma he gi fl : Int64) (p : Int32) : f_DR_gone cam gma he gi fl p = f_Mo_gone cam gma gi fl he p := rfl
theorem eq_balance (cam gma he gi fl : Int64) (gr : Nat → Int64) (p : Int32) : f_DR_balance cam gma gr he gi fl p = f_Mo_balance cam gma gi fl he gr p := by
  unfold f_DR_balance f_Mo_balance f_Tank_allParts
  have e : cam - (((0 + gr 0) + gr 1) + gr 2 + gr 3) - gma = ((((cam - gr 0) - gr 1) - gr 2) - gr 3) - gma := by
    simp only [Int64.sub_eq_add_neg, Int64.neg_add, Int64.zero_add]; ac_rfl
  simp only [e]
theorem eq_load_hl (x : Int32) (h : 1 ≤ x.toInt) : ¬ x ≤ 0 := by
  rw [Int32.le_iff_toInt_le, t_0]; omega
