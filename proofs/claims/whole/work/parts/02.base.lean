/-! my own base rows: a contract's start and end, calls with the frame rule in one row, arrays that are new -/
def nw_ok (w : Cond) : Bool := match w with
  | .fieldLinkNest _ _ _ _ _ _ => true
  | .methodLinkNest _ _ _ _ => true
  | _ => false
theorem nw_all_ok : ∀ w ∈ nw_all, nw_ok w = true := by decide +kernel
def va_N (U : State) : Prop := ∀ w ∈ nw_all, va_Nw w U
theorem nw_warm {w : Cond} (ho : nw_ok w = true) {s U : State} (hW : s.WarmedH U.vm) (h : va_Nw w s) : va_Nw w U := by
  cases w with
  | fieldLinkNest a i b n d k => exact va_Nw.warmF hW h
  | methodLinkNest a i x k => exact va_Nw.warmM hW h
  | _ => exact Bool.noConfusion ho
theorem nw_same {w : Cond} (ho : nw_ok w = true) {u U : State} (hv : u.vm = U.vm) (h : va_Nw w u) : va_Nw w U := by
  cases w with
  | fieldLinkNest a i b n d k => exact va_Nw.same rfl hv h
  | methodLinkNest a i x k => exact va_Nw.same rfl hv h
  | _ => exact Bool.noConfusion ho
theorem va_N.warm {s U : State} (h : va_N s) (hW : s.WarmedH U.vm) : va_N U := fun w hw => nw_warm (nw_all_ok w hw) hW (h w hw)
theorem va_N.same {u U : State} (h : va_N u) (hv : u.vm = U.vm) : va_N U := fun w hw => nw_same (nw_all_ok w hw) hv (h w hw)
theorem g_V {own C : String} {idx n : Nat} {y : MethodName} {bc : ByteArray} {ret : Option FieldType} (h1 : Cond.methodLink own idx y ∈ wg) (h2 : Cond.instanceMethod y ∈ wg) (h3 : Cond.selects C y y ∈ wg) (h4 : Cond.initialized C ∈ wg) (h5 : Cond.code y bc n ret ∈ wg) : GoodIn wg (wsV own idx C y (Cond.code y bc n ret :: wg)) := by
  intro w hw
  have h : w ∈ wg := by
    unfold wsV at hw
    simp only [List.cons_append, List.nil_append, List.mem_cons] at hw
    rcases hw with rfl | rfl | rfl | rfl | rfl | hw
    · exact h1
    · exact h2
    · exact h3
    · exact h4
    · exact h5
    · exact hw
  exact ⟨h, wg_good h⟩
theorem g_S {own : String} {idx n : Nat} {y : MethodName} {bc : ByteArray} {ret : Option FieldType} (h1 : Cond.methodLink own idx y ∈ wg) (h2 : Cond.static y ∈ wg) (h4 : Cond.initialized y.cls ∈ wg) (h5 : Cond.code y bc n ret ∈ wg) : GoodIn wg (va_wsS own idx y (Cond.code y bc n ret :: wg)) := by
  intro w hw
  have h : w ∈ wg := by
    unfold va_wsS at hw
    simp only [List.cons_append, List.nil_append, List.mem_cons] at hw
    rcases hw with rfl | rfl | rfl | rfl | hw
    · exact h1
    · exact h2
    · exact h4
    · exact h5
    · exact hw
  exact ⟨h, wg_good h⟩
theorem g_I {n : Nat} {y : MethodName} {bc : ByteArray} {ret : Option FieldType} (h5 : Cond.code y bc n ret ∈ wg) : GoodIn wg (Cond.code y bc n ret :: wg) := by
  intro w hw
  have h : w ∈ wg := by
    rcases List.mem_cons.mp hw with rfl | hw
    · exact h5
    · exact hw
  exact ⟨h, wg_good h⟩
/-- a contract's start: the heap's size, the cells, the classes, the nest words -/
def c_pre (dC : Nat → ClassId) (dI : Nat → Nat → Nat) (cI cL cZ : ClassId) (ws : va_W) (sz : Nat) (U : State) : Prop :=
  U.heap.size = sz ∧ va_P (dC, dI) vwCl ws U.heap ∧ va_K (dC, dI) vwCl [(cI, .int), (cL, .long), (cZ, .boolean)] U ∧ va_N U ∧ va_D (fun _ => True) ws
/-- a contract's end: the cells as they are then -/
def c_post {S : Type} (dC : Nat → ClassId) (dI : Nat → Nat → Nat) (w1 : S → va_W) (A : Nat → Prop) (u : S) (t : State) : Prop :=
  va_P (dC, dI) vwCl (w1 u) t.heap ∧ va_D A (w1 u)
theorem c_pre_call {dC : Nat → ClassId} {dI : Nat → Nat → Nat} {cI cL cZ : ClassId} {ws : va_W} {sz : Nat} {av : List Value} :
    ∀ (a : Array Value) (U : State) (g : JFrame) (mk : MethodId), va_Pc av (c_pre dC dI cI cL cZ ws sz) a U → va_Pc av (c_pre dC dI cI cL cZ ws sz) a (U.calling g mk a) := by
  intro a U g mk q
  obtain ⟨q0, q1, qP, qK, qN, qD⟩ := q
  exact ⟨q0, q1, qP, va_K.moved (u := U) (U := U.calling g mk a) (Vm.Alike.refl U.vm) qK, qN.same (U := U.calling g mk a) rfl, qD⟩
theorem c_pre_mk {dC : Nat → ClassId} {dI : Nat → Nat → Nat} {cI cL cZ : ClassId} {ws : va_W} {s : State} {H : Heap} {A : Nat → Prop}
    (hP : va_P (dC, dI) vwCl ws H) (hD : va_D A ws) (hK : va_K (dC, dI) vwCl [(cI, .int), (cL, .long), (cZ, .boolean)] s) (hN : va_N s) (av : List Value) :
    ∀ U : State, U.heap = H → s.WarmedH U.vm → va_Pc av (c_pre dC dI cI cL cZ ws H.size) av.toArray U :=
  fun U hU hW => ⟨rfl, by rw [hU], by rw [hU]; exact hP, va_K.moved hW.alike hK, hN.warm hW, hD.weaken (fun _ _ _ _ => trivial)⟩
theorem va_zero_int (N : Nat) : ∀ cA : ClassId, vp_cell cA (N, .inl (fun _ => 0)) = arrV cA N (fun _ => defaultValue .int) := fun cA => vp_cell_i cA N _
theorem va_zero_long (N : Nat) : ∀ cA : ClassId, vp_cell cA (N, .inr (.inl (fun _ => 0))) = arrV cA N (fun _ => defaultValue .long) := fun cA => vp_cell_l cA N _
theorem va_same_int {dC : Nat → ClassId} {dI : Nat → Nat → Nat} {cI cL cZ cA : ClassId} {s : State} (h : va_K (dC, dI) vwCl [(cI, .int), (cL, .long), (cZ, .boolean)] s) (h9 : va_K (dC, dI) vwCl ([(cI, .int), (cL, .long), (cZ, .boolean)] ++ [(cA, .int)]) s) : cI = cA := by
  have h1 : s.vm.findClass ("[" ++ (FieldType.int).toString) = some cA := (h9.2 3 (cA, .int) rfl).2
  have h2 : s.vm.findClass ("[" ++ (FieldType.int).toString) = some cI := (h.2 0 (cI, .int) rfl).2
  exact Option.some.inj (h2.symm.trans h1)
theorem va_same_long {dC : Nat → ClassId} {dI : Nat → Nat → Nat} {cI cL cZ cA : ClassId} {s : State} (h : va_K (dC, dI) vwCl [(cI, .int), (cL, .long), (cZ, .boolean)] s) (h9 : va_K (dC, dI) vwCl ([(cI, .int), (cL, .long), (cZ, .boolean)] ++ [(cA, .long)]) s) : cL = cA := by
  have h1 : s.vm.findClass ("[" ++ (FieldType.long).toString) = some cA := (h9.2 3 (cA, .long) rfl).2
  have h2 : s.vm.findClass ("[" ++ (FieldType.long).toString) = some cL := (h.2 1 (cL, .long) rfl).2
  exact Option.some.inj (h2.symm.trans h1)
theorem va_zero_boolean (N : Nat) : ∀ cA : ClassId, vp_cell cA (N, .inl (fun _ => 0)) = arrV cA N (fun _ => defaultValue .boolean) := fun cA => vp_cell_i cA N _
theorem va_same_boolean {dC : Nat → ClassId} {dI : Nat → Nat → Nat} {cI cL cZ cA : ClassId} {s : State} (h : va_K (dC, dI) vwCl [(cI, .int), (cL, .long), (cZ, .boolean)] s) (h9 : va_K (dC, dI) vwCl ([(cI, .int), (cL, .long), (cZ, .boolean)] ++ [(cA, .boolean)]) s) : cZ = cA := by
  have h1 : s.vm.findClass ("[" ++ (FieldType.boolean).toString) = some cA := (h9.2 3 (cA, .boolean) rfl).2
  have h2 : s.vm.findClass ("[" ++ (FieldType.boolean).toString) = some cZ := (h.2 2 (cZ, .boolean) rfl).2
  exact Option.some.inj (h2.symm.trans h1)
section KC
variable {p : Program} {l : Launch} {e : Env} {R : Room} {s : State} {m : MethodId} {args : Array Value} {below : List Frame} {meth : Method} {c : Code} {H : Heap} {locs : List Loc} {cells slots : Nat} {Q : State → Prop}
variable {pc : Nat} {ls : Array Slot} {rest st0 : List Value} {a : Array Value} {A0 : Nat → Prop} {H0 : Heap} {mc ms : Nat} {dC : Nat → ClassId} {dI : Nat → Nat → Nat} {ws wc wr : va_W}
theorem k_calli {S : Type} {post : Int32 → S → Prop} {w1 : S → va_W} (hP : va_P (dC, dI) vwCl ws H) (hD : va_D A0 ws) (hS : va_S A0 H0 H locs) (hA : ∀ q, H0.size ≤ q → A0 q) (isC isR : List Nat) (hC : isC.map (fun i => ws[i]?) = wc.map some) (hR : isR.map (fun i => ws[i]?) = wr.map some) (hn : va_nd isR = true) (hdis : ∀ i ∈ isR, i ∉ isC)
    (hr : va_Run p l e R s m args below meth c H locs cells slots mc ms (F0 m pc ls st0) rest (va_Qi post (c_post dC dI w1 (va_A wc H.size)) (va_A wc H.size) a) (va_A wc H.size))
    (kk : ∀ (r : Int32) (u : S) (H1 : Heap) (locs1 : List Loc), post r u → H.size ≤ H1.size → va_P (dC, dI) vwCl (wr ++ w1 u) H1 → va_D A0 (wr ++ w1 u) → va_S A0 H0 H1 locs1 → W p l e R s m args below meth c H1 locs1 (cells + mc) (slots + ms) Q (F0 m (pc + 3) ls (.int r :: rest))) : W p l e R s m args below meth c H locs cells slots Q (F0 m pc ls st0) := by
  have hFc := va_free (wc := wc) hD hS hA isC hC
  refine va_calli hr hS (fun q _ h => hFc q h) hFc (fun r u t H1 locs1 ht hvm hw hB hz1 hk1 hS1 => ?_)
  obtain ⟨hP1, hD1⟩ := hB
  rw [ht] at hP1
  obtain ⟨hP2, hD2⟩ := va_join (wr := wr) hP hD isC isR hC hR hn hdis hk1 hFc hP1 hD1
  exact kk r u H1 locs1 hw hz1 hP2 hD2 hS1
theorem k_calll {S : Type} {post : Int64 → S → Prop} {w1 : S → va_W} (hP : va_P (dC, dI) vwCl ws H) (hD : va_D A0 ws) (hS : va_S A0 H0 H locs) (hA : ∀ q, H0.size ≤ q → A0 q) (isC isR : List Nat) (hC : isC.map (fun i => ws[i]?) = wc.map some) (hR : isR.map (fun i => ws[i]?) = wr.map some) (hn : va_nd isR = true) (hdis : ∀ i ∈ isR, i ∉ isC)
    (hr : va_Run p l e R s m args below meth c H locs cells slots mc ms (F0 m pc ls st0) rest (va_Ql post (c_post dC dI w1 (va_A wc H.size)) (va_A wc H.size) a) (va_A wc H.size))
    (kk : ∀ (r : Int64) (u : S) (H1 : Heap) (locs1 : List Loc), post r u → H.size ≤ H1.size → va_P (dC, dI) vwCl (wr ++ w1 u) H1 → va_D A0 (wr ++ w1 u) → va_S A0 H0 H1 locs1 → W p l e R s m args below meth c H1 locs1 (cells + mc) (slots + ms) Q (F0 m (pc + 3) ls (.long r :: rest))) : W p l e R s m args below meth c H locs cells slots Q (F0 m pc ls st0) := by
  have hFc := va_free (wc := wc) hD hS hA isC hC
  refine va_calll hr hS (fun q _ h => hFc q h) hFc (fun r u t H1 locs1 ht hvm hw hB hz1 hk1 hS1 => ?_)
  obtain ⟨hP1, hD1⟩ := hB
  rw [ht] at hP1
  obtain ⟨hP2, hD2⟩ := va_join (wr := wr) hP hD isC isR hC hR hn hdis hk1 hFc hP1 hD1
  exact kk r u H1 locs1 hw hz1 hP2 hD2 hS1
theorem k_callv {S : Type} {post : S → Prop} {w1 : S → va_W} (hP : va_P (dC, dI) vwCl ws H) (hD : va_D A0 ws) (hS : va_S A0 H0 H locs) (hA : ∀ q, H0.size ≤ q → A0 q) (isC isR : List Nat) (hC : isC.map (fun i => ws[i]?) = wc.map some) (hR : isR.map (fun i => ws[i]?) = wr.map some) (hn : va_nd isR = true) (hdis : ∀ i ∈ isR, i ∉ isC)
    (hr : va_Run p l e R s m args below meth c H locs cells slots mc ms (F0 m pc ls st0) rest (va_Qv post (c_post dC dI w1 (va_A wc H.size)) (va_A wc H.size) a) (va_A wc H.size))
    (kk : ∀ (u : S) (H1 : Heap) (locs1 : List Loc), post u → H.size ≤ H1.size → va_P (dC, dI) vwCl (wr ++ w1 u) H1 → va_D A0 (wr ++ w1 u) → va_S A0 H0 H1 locs1 → W p l e R s m args below meth c H1 locs1 (cells + mc) (slots + ms) Q (F0 m (pc + 3) ls rest)) : W p l e R s m args below meth c H locs cells slots Q (F0 m pc ls st0) := by
  have hFc := va_free (wc := wc) hD hS hA isC hC
  refine va_callv hr hS (fun q _ h => hFc q h) hFc (fun u t H1 locs1 ht hvm hw hB hz1 hk1 hS1 => ?_)
  obtain ⟨hP1, hD1⟩ := hB
  rw [ht] at hP1
  obtain ⟨hP2, hD2⟩ := va_join (wr := wr) hP hD isC isR hC hR hn hdis hk1 hFc hP1 hD1
  exact kk u H1 locs1 hw hz1 hP2 hD2 hS1
/-- a call whose answer is a new cell: its address is u.1 -/
theorem k_callr {S : Type} {post : S → Prop} {w1 : S → Nat → va_W} (hP : va_P (dC, dI) vwCl ws H) (hD : va_D A0 ws) (hS : va_S A0 H0 H locs) (hA : ∀ q, H0.size ≤ q → A0 q) (isC isR : List Nat) (hC : isC.map (fun i => ws[i]?) = wc.map some) (hR : isR.map (fun i => ws[i]?) = wr.map some) (hn : va_nd isR = true) (hdis : ∀ i ∈ isR, i ∉ isC)
    (hr : va_Run p l e R s m args below meth c H locs cells slots mc ms (F0 m pc ls st0) rest (va_Qr post (fun u q t => va_P (dC, dI) vwCl (w1 u q) t.heap ∧ va_D (va_A wc H.size) (w1 u q)) (va_A wc H.size) a) (va_A wc H.size))
    (kk : ∀ (u : S) (q : Nat) (H1 : Heap) (locs1 : List Loc), post u → H.size ≤ H1.size → va_P (dC, dI) vwCl (wr ++ w1 u q) H1 → va_D A0 (wr ++ w1 u q) → va_S A0 H0 H1 locs1 → W p l e R s m args below meth c H1 locs1 (cells + mc) (slots + ms) Q (F0 m (pc + 3) ls (.ref q :: rest))) : W p l e R s m args below meth c H locs cells slots Q (F0 m pc ls st0) := by
  have hFc := va_free (wc := wc) hD hS hA isC hC
  refine va_callr hr hS (fun q _ h => hFc q h) hFc (fun u q t H1 locs1 ht hvm hw hB hz1 hk1 hS1 => ?_)
  obtain ⟨hP1, hD1⟩ := hB
  rw [ht] at hP1
  obtain ⟨hP2, hD2⟩ := va_join (wr := wr) hP hD isC isR hC hR hn hdis hk1 hFc hP1 hD1
  exact kk u q H1 locs1 hw hz1 hP2 hD2 hS1
end KC
/-! numbers: places in range, machine sums that don't wrap -/
theorem i_add {a b : Int32} (h1 : -2147483648 ≤ a.toInt + b.toInt) (h2 : a.toInt + b.toInt < 2147483648) : (a + b).toInt = a.toInt + b.toInt := by
  rw [Int32.toInt_add]; exact Int.bmod_eq_of_le (by omega) (by omega)
theorem i_sub {a b : Int32} (h1 : -2147483648 ≤ a.toInt - b.toInt) (h2 : a.toInt - b.toInt < 2147483648) : (a - b).toInt = a.toInt - b.toInt := by
  rw [Int32.toInt_sub]; exact Int.bmod_eq_of_le (by omega) (by omega)
theorem i_mul {a b : Int32} (h1 : -2147483648 ≤ a.toInt * b.toInt) (h2 : a.toInt * b.toInt < 2147483648) : (a * b).toInt = a.toInt * b.toInt := by
  rw [Int32.toInt_mul]; exact Int.bmod_eq_of_le (by omega) (by omega)
theorem t_0 : (0 : Int32).toInt = 0 := by decide
theorem t_1 : (1 : Int32).toInt = 1 := by decide
theorem t_2 : (2 : Int32).toInt = 2 := by decide
theorem t_3 : (3 : Int32).toInt = 3 := by decide
theorem t_4 : (4 : Int32).toInt = 4 := by decide
theorem t_9 : (9 : Int32).toInt = 9 := by decide
theorem t_30 : (30 : Int32).toInt = 30 := by decide
theorem t_m1 : (-1 : Int32).toInt = -1 := by decide
theorem cl_i (x : Int32) : x.toNatClampNeg = x.toInt.toNat := rfl
theorem i_lo (x : Int32) : -2147483648 ≤ x.toInt := by have := Int32.le_toInt x; simpa using this
theorem i_hi (x : Int32) : x.toInt < 2147483648 := by have := Int32.toInt_lt x; simpa using this
theorem in_lt {x : Int32} {n : Nat} (h : vp_in x n) : x.toNatClampNeg < n := by
  rw [vp_in_iff] at h; rw [cl_i]; omega
theorem in_sh {a b : Int32} (ha : vp_in a 4) (hb : vp_in b 3) : vp_in (a * 3 + b) 12 := by
  rw [vp_in_iff] at ha hb ⊢
  have e1 : (a * 3).toInt = a.toInt * 3 := by rw [i_mul, t_3] <;> rw [t_3] <;> omega
  have e2 : (a * 3 + b).toInt = a.toInt * 3 + b.toInt := by rw [i_add, e1] <;> rw [e1] <;> omega
  rw [e2]; omega
theorem in_up {x : Int32} (h : vp_in x 3) : vp_in x 4 := by rw [vp_in_iff] at h ⊢; omega
theorem ne_l {x : Int32} (h : ¬ x = 0) : ¬ Int32.toInt64 x = 0 := by
  intro q
  apply h
  apply Int32.toInt_inj.mp
  have e : (Int32.toInt64 x).toInt = x.toInt := Int32.toInt_toInt64 x
  rw [q] at e
  rw [← e]; rfl
theorem shr_i {x : Int32} : (x >>> ((1 : Int32) &&& 31)).toInt = x.toInt / 2 := by
  rw [pk_shr x ((1 : Int32) &&& 31) 1 (by decide), Int.shiftRight_eq_div_pow]; rfl
theorem shr_lt {jp : Int32} {n : Nat} (c : ¬ jp ≤ 0) (hm : jp.toNatClampNeg < n + 1) : (jp >>> ((1 : Int32) &&& 31)).toNatClampNeg < n := by
  rw [Int32.le_iff_toInt_le, t_0] at c
  rw [cl_i] at hm ⊢
  rw [shr_i]; omega
theorem in_shr {jp : Int32} {n : Nat} (h : vp_in jp n) : vp_in (jp >>> ((1 : Int32) &&& 31)) n := by
  rw [vp_in_iff] at h ⊢; rw [shr_i]; omega
theorem in_us {us : Int32} (h : vp_in us 5) (c : us < 4) : vp_in us 4 := by
  rw [Int32.lt_iff_toInt_lt, t_4] at c; rw [vp_in_iff] at h ⊢; omega
theorem in_pred {x : Int32} (h : vp_in x 4) (c : ¬ x ≤ 0) : vp_in (x - 1) 4 := by
  rw [Int32.le_iff_toInt_le, t_0] at c; rw [vp_in_iff] at h ⊢
  rw [i_sub] <;> rw [t_1] <;> omega
theorem in_predn {x : Int32} (h : vp_in x 4) (c : ¬ x ≤ 0) : vp_in (x + (-1)) 4 := by
  rw [Int32.le_iff_toInt_le, t_0] at c; rw [vp_in_iff] at h ⊢
  rw [i_add] <;> rw [t_m1] <;> omega
theorem pred_lt {x : Int32} {n : Nat} (h : vp_in x 4) (c : ¬ x ≤ 0) (hm : x.toNatClampNeg < n + 1) : (x + (-1)).toNatClampNeg < n := by
  rw [Int32.le_iff_toInt_le, t_0] at c; rw [vp_in_iff] at h; rw [cl_i] at hm ⊢
  rw [i_add] <;> rw [t_m1] <;> omega
theorem in_of {od : Nat → Int32} (h : ∀ i, i < 4 → vp_in (od i) 4) {x : Int32} (hx : vp_in x 4) : vp_in (od x.toNatClampNeg) 4 := h _ (in_lt hx)
theorem in_upd {od : Nat → Int32} {k : Nat} {v : Int32} (h : ∀ i, i < 4 → vp_in (od i) 4) (hv : vp_in v 4) : ∀ i, i < 4 → vp_in (upd od k v i) 4 := by
  intro i hi
  unfold upd
  split
  · exact hv
  · exact h i hi
theorem in_lt4 {iv us : Int32} (hi : vp_in iv 5) (hu : vp_in us 5) (c : ¬ us ≤ iv) : vp_in iv 4 := by
  rw [Int32.le_iff_toInt_le] at c; rw [vp_in_iff] at hi hu ⊢; omega
theorem in_up1 {iv us : Int32} (hi : vp_in iv 5) (hu : vp_in us 5) (c : ¬ us ≤ iv) : vp_in (iv + 1) 5 := by
  rw [Int32.le_iff_toInt_le] at c; rw [vp_in_iff] at hi hu ⊢
  rw [i_add] <;> rw [t_1] <;> omega
theorem up_lt {iv us : Int32} {n : Nat} (hi : vp_in iv 5) (hu : vp_in us 5) (c : ¬ us ≤ iv) (hm : 4 - iv.toNatClampNeg < n + 1) : 4 - (iv + 1).toNatClampNeg < n := by
  rw [Int32.le_iff_toInt_le] at c; rw [vp_in_iff] at hi hu; rw [cl_i] at hm ⊢
  rw [i_add] <;> rw [t_1] <;> omega
theorem in_pk {pn : Int32} {pl : Nat} (h : vp_in pn 10001) (hl : pl ≤ 10000) (c : pn < nI pl) : vp_in pn pl := by
  rw [Int32.lt_iff_toInt_lt, nI_toInt (by omega)] at c; rw [vp_in_iff] at h ⊢; omega
theorem in_pk1 {pn : Int32} {pl : Nat} (h : vp_in pn 10001) (hl : pl ≤ 10000) (c : pn < nI pl) (c2 : ¬ pn = 0) : vp_in (pn - 1) pl := by
  have h0 : ¬ pn.toInt = 0 := fun q => c2 (Int32.toInt_inj.mp (by rw [q, t_0]))
  rw [Int32.lt_iff_toInt_lt, nI_toInt (by omega)] at c; rw [vp_in_iff] at h ⊢
  rw [i_sub] <;> rw [t_1] <;> omega
theorem in_fa {ps jp pn : Int32} {pl : Nat} (hs : vp_in ps 20001) (hn : vp_in pn (pl + 1)) (hl : pl ≤ 10000) (c : ¬ jp ≤ 0) (hj : vp_in jp 8193) (c2 : ¬ pn < ps + jp) : vp_in ((ps + jp) - 1) pl := by
  rw [Int32.le_iff_toInt_le, t_0] at c; rw [vp_in_iff] at hs hn hj ⊢
  have e : (ps + jp).toInt = ps.toInt + jp.toInt := by rw [i_add] <;> omega
  rw [Int32.lt_iff_toInt_lt, e] at c2
  rw [i_sub] <;> rw [e, t_1] <;> omega
theorem in_fas {ps jp pn : Int32} {pl : Nat} (hs : vp_in ps 20001) (hj : vp_in jp 8193) (hn : vp_in pn (pl + 1)) (hl : pl ≤ 10000) (c2 : ¬ pn < ps + jp) : vp_in (ps + jp) 20001 := by
  rw [vp_in_iff] at hs hn hj ⊢
  have e : (ps + jp).toInt = ps.toInt + jp.toInt := by rw [i_add] <;> omega
  rw [Int32.lt_iff_toInt_lt, e] at c2
  rw [e]; omega
theorem ne_gt {x : Int32} (c : 0 < x) : ¬ x = 0 := by
  intro q; rw [q] at c; exact absurd c (by decide)
theorem in_k4 {x : Int32} (h : vp_in x 5) (c : ¬ 4 ≤ x) : vp_in x 4 := by
  rw [Int32.le_iff_toInt_le, t_4] at c; rw [vp_in_iff] at h ⊢; omega
theorem in_k4n {x : Int32} (h : vp_in x 5) (c : ¬ 4 ≤ x) : vp_in (x + 1) 5 := by
  rw [Int32.le_iff_toInt_le, t_4] at c; rw [vp_in_iff] at h ⊢
  rw [i_add] <;> rw [t_1] <;> omega
theorem k4_lt {x : Int32} {n : Nat} (h : vp_in x 5) (c : ¬ 4 ≤ x) (hm : 4 - x.toNatClampNeg < n + 1) : 4 - (x + 1).toNatClampNeg < n := by
  rw [Int32.le_iff_toInt_le, t_4] at c; rw [vp_in_iff] at h; rw [cl_i] at hm ⊢
  rw [i_add] <;> rw [t_1] <;> omega
theorem in_i9 {iv y : Int32} (hi : vp_in iv 10) (hy : vp_in y 10) (c : ¬ y ≤ iv) : vp_in (iv + 1) 10 := by
  rw [Int32.le_iff_toInt_le] at c; rw [vp_in_iff] at hi hy ⊢
  rw [i_add] <;> rw [t_1] <;> omega
theorem i9_lt {iv y : Int32} {n : Nat} (hi : vp_in iv 10) (hy : vp_in y 10) (c : ¬ y ≤ iv) (hm : 9 - iv.toNatClampNeg < n + 1) : 9 - (iv + 1).toNatClampNeg < n := by
  rw [Int32.le_iff_toInt_le] at c; rw [vp_in_iff] at hi hy; rw [cl_i] at hm ⊢
  rw [i_add] <;> rw [t_1] <;> omega
theorem in_ti {iv tc : Int32} (hi : vp_in iv 31) (hc : vp_in tc 31) (c : ¬ tc ≤ iv) : vp_in iv 30 := by
  rw [Int32.le_iff_toInt_le] at c; rw [vp_in_iff] at hi hc ⊢; omega
theorem in_tin {iv tc : Int32} (hi : vp_in iv 31) (hc : vp_in tc 31) (c : ¬ tc ≤ iv) : vp_in (iv + 1) 31 := by
  rw [Int32.le_iff_toInt_le] at c; rw [vp_in_iff] at hi hc ⊢
  rw [i_add] <;> rw [t_1] <;> omega
theorem ti_lt {iv tc : Int32} {n : Nat} (hi : vp_in iv 31) (hc : vp_in tc 31) (c : ¬ tc ≤ iv) (hm : 30 - iv.toNatClampNeg < n + 1) : 30 - (iv + 1).toNatClampNeg < n := by
  rw [Int32.le_iff_toInt_le] at c; rw [vp_in_iff] at hi hc; rw [cl_i] at hm ⊢
  rw [i_add] <;> rw [t_1] <;> omega
