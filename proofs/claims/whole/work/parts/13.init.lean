theorem d_Shares_init_0 : decode b_Shares_init 0 = .ok (.aload_n 0, 1) := by decide +kernel
theorem d_Shares_init_1 : decode b_Shares_init 1 = .ok (.invokespecial 3, 3) := by decide +kernel
theorem d_Shares_init_4 : decode b_Shares_init 4 = .ok (.aload_n 0, 1) := by decide +kernel
theorem d_Shares_init_5 : decode b_Shares_init 5 = .ok (.bipush 12, 2) := by decide +kernel
theorem d_Shares_init_7 : decode b_Shares_init 7 = .ok (.newarray .int, 2) := by decide +kernel
theorem d_Shares_init_9 : decode b_Shares_init 9 = .ok (.putfield 9, 3) := by decide +kernel
theorem d_Shares_init_12 : decode b_Shares_init 12 = .ok (.return_, 1) := by decide +kernel
theorem d_Told_init_0 : decode b_Told_init 0 = .ok (.aload_n 0, 1) := by decide +kernel
theorem d_Told_init_1 : decode b_Told_init 1 = .ok (.invokespecial 3, 3) := by decide +kernel
theorem d_Told_init_4 : decode b_Told_init 4 = .ok (.aload_n 0, 1) := by decide +kernel
theorem d_Told_init_5 : decode b_Told_init 5 = .ok (.bipush 30, 2) := by decide +kernel
theorem d_Told_init_7 : decode b_Told_init 7 = .ok (.newarray .int, 2) := by decide +kernel
theorem d_Told_init_9 : decode b_Told_init 9 = .ok (.putfield 9, 3) := by decide +kernel
theorem d_Told_init_12 : decode b_Told_init 12 = .ok (.aload_n 0, 1) := by decide +kernel
theorem d_Told_init_13 : decode b_Told_init 13 = .ok (.bipush 30, 2) := by decide +kernel
theorem d_Told_init_15 : decode b_Told_init 15 = .ok (.newarray .int, 2) := by decide +kernel
theorem d_Told_init_17 : decode b_Told_init 17 = .ok (.putfield 15, 3) := by decide +kernel
theorem d_Told_init_20 : decode b_Told_init 20 = .ok (.aload_n 0, 1) := by decide +kernel
theorem d_Told_init_21 : decode b_Told_init 21 = .ok (.bipush 30, 2) := by decide +kernel
theorem d_Told_init_23 : decode b_Told_init 23 = .ok (.newarray .int, 2) := by decide +kernel
theorem d_Told_init_25 : decode b_Told_init 25 = .ok (.putfield 18, 3) := by decide +kernel
theorem d_Told_init_28 : decode b_Told_init 28 = .ok (.return_, 1) := by decide +kernel
theorem d_Tank_init_0 : decode b_Tank_init 0 = .ok (.aload_n 0, 1) := by decide +kernel
theorem d_Tank_init_1 : decode b_Tank_init 1 = .ok (.invokespecial 3, 3) := by decide +kernel
theorem d_Tank_init_4 : decode b_Tank_init 4 = .ok (.aload_n 0, 1) := by decide +kernel
theorem d_Tank_init_5 : decode b_Tank_init 5 = .ok (.iconst 4, 1) := by decide +kernel
theorem d_Tank_init_6 : decode b_Tank_init 6 = .ok (.newarray .long, 2) := by decide +kernel
theorem d_Tank_init_8 : decode b_Tank_init 8 = .ok (.putfield 9, 3) := by decide +kernel
theorem d_Tank_init_11 : decode b_Tank_init 11 = .ok (.aload_n 0, 1) := by decide +kernel
theorem d_Tank_init_12 : decode b_Tank_init 12 = .ok (.iconst 3, 1) := by decide +kernel
theorem d_Tank_init_13 : decode b_Tank_init 13 = .ok (.newarray .int, 2) := by decide +kernel
theorem d_Tank_init_15 : decode b_Tank_init 15 = .ok (.putfield 15, 3) := by decide +kernel
theorem d_Tank_init_18 : decode b_Tank_init 18 = .ok (.aload_n 0, 1) := by decide +kernel
theorem d_Tank_init_19 : decode b_Tank_init 19 = .ok (.ldc 19, 2) := by decide +kernel
theorem d_Tank_init_21 : decode b_Tank_init 21 = .ok (.putfield 20, 3) := by decide +kernel
theorem d_Tank_init_24 : decode b_Tank_init 24 = .ok (.return_, 1) := by decide +kernel
theorem d_GasStore_init_0 : decode b_GasStore_init 0 = .ok (.aload_n 0, 1) := by decide +kernel
theorem d_GasStore_init_1 : decode b_GasStore_init 1 = .ok (.invokespecial 3, 3) := by decide +kernel
theorem d_GasStore_init_4 : decode b_GasStore_init 4 = .ok (.aload_n 0, 1) := by decide +kernel
theorem d_GasStore_init_5 : decode b_GasStore_init 5 = .ok (.iconst 4, 1) := by decide +kernel
theorem d_GasStore_init_6 : decode b_GasStore_init 6 = .ok (.newarray .int, 2) := by decide +kernel
theorem d_GasStore_init_8 : decode b_GasStore_init 8 = .ok (.putfield 9, 3) := by decide +kernel
theorem d_GasStore_init_11 : decode b_GasStore_init 11 = .ok (.aload_n 0, 1) := by decide +kernel
theorem d_GasStore_init_12 : decode b_GasStore_init 12 = .ok (.iconst 4, 1) := by decide +kernel
theorem d_GasStore_init_13 : decode b_GasStore_init 13 = .ok (.newarray .int, 2) := by decide +kernel
theorem d_GasStore_init_15 : decode b_GasStore_init 15 = .ok (.putfield 15, 3) := by decide +kernel
theorem d_GasStore_init_18 : decode b_GasStore_init 18 = .ok (.aload_n 0, 1) := by decide +kernel
theorem d_GasStore_init_19 : decode b_GasStore_init 19 = .ok (.iconst 4, 1) := by decide +kernel
theorem d_GasStore_init_20 : decode b_GasStore_init 20 = .ok (.newarray .long, 2) := by decide +kernel
theorem d_GasStore_init_22 : decode b_GasStore_init 22 = .ok (.putfield 18, 3) := by decide +kernel
theorem d_GasStore_init_25 : decode b_GasStore_init 25 = .ok (.aload_n 0, 1) := by decide +kernel
theorem d_GasStore_init_26 : decode b_GasStore_init 26 = .ok (.iconst 4, 1) := by decide +kernel
theorem d_GasStore_init_27 : decode b_GasStore_init 27 = .ok (.newarray .int, 2) := by decide +kernel
theorem d_GasStore_init_29 : decode b_GasStore_init 29 = .ok (.putfield 22, 3) := by decide +kernel
theorem d_GasStore_init_32 : decode b_GasStore_init 32 = .ok (.return_, 1) := by decide +kernel
theorem d_AcidPeaks_init_0 : decode b_AcidPeaks_init 0 = .ok (.aload_n 0, 1) := by decide +kernel
theorem d_AcidPeaks_init_1 : decode b_AcidPeaks_init 1 = .ok (.invokespecial 3, 3) := by decide +kernel
theorem d_AcidPeaks_init_4 : decode b_AcidPeaks_init 4 = .ok (.aload_n 0, 1) := by decide +kernel
theorem d_AcidPeaks_init_5 : decode b_AcidPeaks_init 5 = .ok (.bipush 64, 2) := by decide +kernel
theorem d_AcidPeaks_init_7 : decode b_AcidPeaks_init 7 = .ok (.newarray .long, 2) := by decide +kernel
theorem d_AcidPeaks_init_9 : decode b_AcidPeaks_init 9 = .ok (.putfield 11, 3) := by decide +kernel
theorem d_AcidPeaks_init_12 : decode b_AcidPeaks_init 12 = .ok (.return_, 1) := by decide +kernel
theorem d_Planner_init_0 : decode b_Planner_init 0 = .ok (.aload_n 0, 1) := by decide +kernel
theorem d_Planner_init_1 : decode b_Planner_init 1 = .ok (.invokespecial 3, 3) := by decide +kernel
theorem d_Planner_init_4 : decode b_Planner_init 4 = .ok (.aload_n 0, 1) := by decide +kernel
theorem d_Planner_init_5 : decode b_Planner_init 5 = .ok (.iconst 4, 1) := by decide +kernel
theorem d_Planner_init_6 : decode b_Planner_init 6 = .ok (.newarray .int, 2) := by decide +kernel
theorem d_Planner_init_8 : decode b_Planner_init 8 = .ok (.putfield 9, 3) := by decide +kernel
theorem d_Planner_init_11 : decode b_Planner_init 11 = .ok (.aload_n 0, 1) := by decide +kernel
theorem d_Planner_init_12 : decode b_Planner_init 12 = .ok (.iconst 4, 1) := by decide +kernel
theorem d_Planner_init_13 : decode b_Planner_init 13 = .ok (.newarray .int, 2) := by decide +kernel
theorem d_Planner_init_15 : decode b_Planner_init 15 = .ok (.putfield 15, 3) := by decide +kernel
theorem d_Planner_init_18 : decode b_Planner_init 18 = .ok (.aload_n 0, 1) := by decide +kernel
theorem d_Planner_init_19 : decode b_Planner_init 19 = .ok (.iconst 4, 1) := by decide +kernel
theorem d_Planner_init_20 : decode b_Planner_init 20 = .ok (.newarray .int, 2) := by decide +kernel
theorem d_Planner_init_22 : decode b_Planner_init 22 = .ok (.putfield 18, 3) := by decide +kernel
theorem d_Planner_init_25 : decode b_Planner_init 25 = .ok (.aload_n 0, 1) := by decide +kernel
theorem d_Planner_init_26 : decode b_Planner_init 26 = .ok (.iconst 4, 1) := by decide +kernel
theorem d_Planner_init_27 : decode b_Planner_init 27 = .ok (.newarray .int, 2) := by decide +kernel
theorem d_Planner_init_29 : decode b_Planner_init 29 = .ok (.putfield 21, 3) := by decide +kernel
theorem d_Planner_init_32 : decode b_Planner_init 32 = .ok (.return_, 1) := by decide +kernel
theorem d_DR_init_0 : decode b_DR_init 0 = .ok (.aload_n 0, 1) := by decide +kernel
theorem d_DR_init_1 : decode b_DR_init 1 = .ok (.invokespecial 1, 3) := by decide +kernel
theorem d_DR_init_4 : decode b_DR_init 4 = .ok (.aload_n 0, 1) := by decide +kernel
theorem d_DR_init_5 : decode b_DR_init 5 = .ok (.new 7, 3) := by decide +kernel
theorem d_DR_init_8 : decode b_DR_init 8 = .ok (.dup, 1) := by decide +kernel
theorem d_DR_init_9 : decode b_DR_init 9 = .ok (.invokespecial 9, 3) := by decide +kernel
theorem d_DR_init_12 : decode b_DR_init 12 = .ok (.putfield 10, 3) := by decide +kernel
theorem d_DR_init_15 : decode b_DR_init 15 = .ok (.aload_n 0, 1) := by decide +kernel
theorem d_DR_init_16 : decode b_DR_init 16 = .ok (.new 16, 3) := by decide +kernel
theorem d_DR_init_19 : decode b_DR_init 19 = .ok (.dup, 1) := by decide +kernel
theorem d_DR_init_20 : decode b_DR_init 20 = .ok (.invokespecial 18, 3) := by decide +kernel
theorem d_DR_init_23 : decode b_DR_init 23 = .ok (.putfield 19, 3) := by decide +kernel
theorem d_DR_init_26 : decode b_DR_init 26 = .ok (.aload_n 0, 1) := by decide +kernel
theorem d_DR_init_27 : decode b_DR_init 27 = .ok (.new 23, 3) := by decide +kernel
theorem d_DR_init_30 : decode b_DR_init 30 = .ok (.dup, 1) := by decide +kernel
theorem d_DR_init_31 : decode b_DR_init 31 = .ok (.invokespecial 25, 3) := by decide +kernel
theorem d_DR_init_34 : decode b_DR_init 34 = .ok (.putfield 26, 3) := by decide +kernel
theorem d_DR_init_37 : decode b_DR_init 37 = .ok (.aload_n 0, 1) := by decide +kernel
theorem d_DR_init_38 : decode b_DR_init 38 = .ok (.new 30, 3) := by decide +kernel
theorem d_DR_init_41 : decode b_DR_init 41 = .ok (.dup, 1) := by decide +kernel
theorem d_DR_init_42 : decode b_DR_init 42 = .ok (.invokespecial 32, 3) := by decide +kernel
theorem d_DR_init_45 : decode b_DR_init 45 = .ok (.putfield 33, 3) := by decide +kernel
theorem d_DR_init_48 : decode b_DR_init 48 = .ok (.aload_n 0, 1) := by decide +kernel
theorem d_DR_init_49 : decode b_DR_init 49 = .ok (.new 37, 3) := by decide +kernel
theorem d_DR_init_52 : decode b_DR_init 52 = .ok (.dup, 1) := by decide +kernel
theorem d_DR_init_53 : decode b_DR_init 53 = .ok (.invokespecial 39, 3) := by decide +kernel
theorem d_DR_init_56 : decode b_DR_init 56 = .ok (.putfield 40, 3) := by decide +kernel
theorem d_DR_init_59 : decode b_DR_init 59 = .ok (.aload_n 0, 1) := by decide +kernel
theorem d_DR_init_60 : decode b_DR_init 60 = .ok (.new 44, 3) := by decide +kernel
theorem d_DR_init_63 : decode b_DR_init 63 = .ok (.dup, 1) := by decide +kernel
theorem d_DR_init_64 : decode b_DR_init 64 = .ok (.invokespecial 46, 3) := by decide +kernel
theorem d_DR_init_67 : decode b_DR_init 67 = .ok (.putfield 47, 3) := by decide +kernel
theorem d_DR_init_70 : decode b_DR_init 70 = .ok (.aload_n 0, 1) := by decide +kernel
theorem d_DR_init_71 : decode b_DR_init 71 = .ok (.iconst 0, 1) := by decide +kernel
theorem d_DR_init_72 : decode b_DR_init 72 = .ok (.putfield 51, 3) := by decide +kernel
theorem d_DR_init_75 : decode b_DR_init 75 = .ok (.return_, 1) := by decide +kernel
abbrev rm_Shares_init : Room := { frames := 1, cells := 1, slots := 12, locals := 12 }
set_option maxHeartbeats 4000000 in
set_option maxRecDepth 100000 in
theorem c_Shares_init (l : Launch) (dC : Nat → ClassId) (dI : Nat → Nat → Nat) (cI cL cZ : ClassId) (aS : Nat) (sz : Nat) : Met l y_Shares_init w_Shares_init rm_Shares_init (va_Pc [.ref aS] (c_pre dC dI cI cL cZ [(aS, .inr (1, [.null]))] sz)) (va_Qv (fun (_ : Nat) => True) (c_post dC dI (fun (u : Nat) => [(aS, .inr (1, [.ref u])), (u, .inl (cI, 12, .inl (fun _ => 0)))]) (va_A [(aS, .inr (1, [.null]))] sz)) (va_A [(aS, .inr (1, [.null]))] sz)) 1 12 (va_A [(aS, .inr (1, [.null]))] sz) := by
  refine Met.ofW (cc := b_Shares_init) (maxL := 1) (ret := none) (by decide) rfl ?_
  intro p e s m args below meth c s₁ B hml hv
  obtain ⟨rfl, hsz, hP, hK, hN, hD0⟩ := hv
  have hx := B.exec
  have hb := B.bytes
  have hr := B.returns
  have hts := atoms_spec (ws := w_Shares_init) B.pre
  have hown : s.vm.findClass R_Shares = some m.cls := findClass_of_methodNamed B.named
  have hlocks := B.notSynchronized
  have hwg : ∀ w ∈ wg, w.before ([.ref aS] : List Value).toArray s = true := fun w h => hts w (List.mem_cons_of_mem _ h)
  have hin : meth.name = "<init>" := (name_of_methodNamed B.named B.method).1
  subst hsz
  have hD := hD0.self (sz := s.heap.size)
  generalize hAe : va_A [(aS, .inr (1, [.null]))] s.heap.size = A at hD ⊢
  have hA : ∀ q : Nat, s.heap.size ≤ q → A q := fun q h => by rw [← hAe]; exact Or.inr h
  have hS : va_S A s.heap s.heap [] := va_S.rf
  have hP : va_P (dC, dI) vwCl [(aS, .inr (1, [.null]))] s.heap := hP
  have hl := lv_entry ([.ref aS]) (n := 1) (Nat.le_of_ble_eq_true rfl)
  rw [lg_entry_eq]
  generalize (lg_sl ([.ref aS]) ++ List.replicate (1 - (lg_sl ([.ref aS])).length) Slot.unset).toArray = ls at hl ⊢
  have hl : lv_has ls 1 [(0, .ref aS)] := hl
  refine lv_aload_n hx hb d_Shares_init_0 rfl (lv_at hl 0 rfl) ?_
  refine W.objInit hx hb hown (hwg _ kw_37) (hwg _ kw_31) (hwg _ kw_32) rfl (by rw [hml]; exact hl.1) rfl d_Shares_init_1 (Nat.le_of_ble_eq_true rfl) (Nat.le_of_ble_eq_true rfl) ?_
  refine W.eq (g2 := F0 m 4 ls []) rfl ?_
  refine lv_aload_n hx hb d_Shares_init_4 rfl (lv_at hl 0 rfl) ?_
  refine lv_bipush (v := 12) hx hb d_Shares_init_5 (by decide) ?_
  refine va_newa (atype := .int) (a0 := (12, .inl (fun _ => 0))) (N' := 12) hx hb (hwg _ kw_39) (ty := .int) rfl hK hP hD hS hA (va_zero_int _) (by decide) rfl (by decide) (Nat.le_of_ble_eq_true rfl) (Nat.le_of_ble_eq_true rfl) d_Shares_init_7 (fun q7 cA H7 hK9 hP hD hS => ?_)
  obtain rfl : cI = cA := va_same_int hK hK9
  have hP : va_P (dC, dI) vwCl [(aS, .inr (1, [.null])), (q7, .inl (cI, 12, .inl (fun _ => 0)))] H7 := hP
  have hD : va_D A [(aS, .inr (1, [.null])), (q7, .inl (cI, 12, .inl (fun _ => 0)))] := hD
  refine va_putF (D := (dC, dI)) (ci := 1) (v := .ref q7) (ty := (.array .int)) (C := R_Shares) (T := F_Shares) (N := 1) hx hb hwg iu_Shares t_Shares t_Shares_ok n_Shares hown hK hP hD hS 0 rfl rfl 0 (by decide) (hwg _ kw_38) (fun _ h9 => h9) rfl hin rfl (by decide +kernel) rfl rfl (Nat.le_of_ble_eq_true rfl) d_Shares_init_9 (fun H9 locs hP hD hS => ?_)
  have hP : va_P (dC, dI) vwCl [(aS, .inr (1, [.ref q7])), (q7, .inl (cI, 12, .inl (fun _ => 0)))] H9 := hP
  have hD : va_D A [(aS, .inr (1, [.ref q7])), (q7, .inl (cI, 12, .inl (fun _ => 0)))] := hD
  have hP9 := hP.sub (ws' := [(aS, .inr (1, [.ref q7])), (q7, .inl (cI, 12, .inl (fun _ => 0)))]) [0, 1] rfl
  have hD9 := hD.sub (ws' := [(aS, .inr (1, [.ref q7])), (q7, .inl (cI, 12, .inl (fun _ => 0)))]) [0, 1] (by decide) rfl
  refine W.widen (k := 1) (n := 12) (by decide) (by decide) ?_
  exact W.vret hx hb hr (fun t ht hW => ⟨⟨(q7), rfl, trivial, by rw [ht]; exact hP9, hD9⟩, hS.F ht⟩) hS.2.2 d_Shares_init_12
abbrev rm_Told_init : Room := { frames := 1, cells := 3, slots := 90, locals := 12 }
set_option maxHeartbeats 4000000 in
set_option maxRecDepth 100000 in
theorem c_Told_init (l : Launch) (dC : Nat → ClassId) (dI : Nat → Nat → Nat) (cI cL cZ : ClassId) (aT : Nat) (sz : Nat) : Met l y_Told_init w_Told_init rm_Told_init (va_Pc [.ref aT] (c_pre dC dI cI cL cZ [(aT, .inr (2, [.null, .null, .null, .int 0]))] sz)) (va_Qv (fun (_ : Nat × Nat × Nat) => True) (c_post dC dI (fun (u : Nat × Nat × Nat) => [(aT, .inr (2, [.ref u.1, .ref u.2.1, .ref u.2.2, .int 0])), (u.1, .inl (cI, 30, .inl (fun _ => 0))), (u.2.1, .inl (cI, 30, .inl (fun _ => 0))), (u.2.2, .inl (cI, 30, .inl (fun _ => 0)))]) (va_A [(aT, .inr (2, [.null, .null, .null, .int 0]))] sz)) (va_A [(aT, .inr (2, [.null, .null, .null, .int 0]))] sz)) 3 90 (va_A [(aT, .inr (2, [.null, .null, .null, .int 0]))] sz) := by
  refine Met.ofW (cc := b_Told_init) (maxL := 1) (ret := none) (by decide) rfl ?_
  intro p e s m args below meth c s₁ B hml hv
  obtain ⟨rfl, hsz, hP, hK, hN, hD0⟩ := hv
  have hx := B.exec
  have hb := B.bytes
  have hr := B.returns
  have hts := atoms_spec (ws := w_Told_init) B.pre
  have hown : s.vm.findClass R_Told = some m.cls := findClass_of_methodNamed B.named
  have hlocks := B.notSynchronized
  have hwg : ∀ w ∈ wg, w.before ([.ref aT] : List Value).toArray s = true := fun w h => hts w (List.mem_cons_of_mem _ h)
  have hin : meth.name = "<init>" := (name_of_methodNamed B.named B.method).1
  subst hsz
  have hD := hD0.self (sz := s.heap.size)
  generalize hAe : va_A [(aT, .inr (2, [.null, .null, .null, .int 0]))] s.heap.size = A at hD ⊢
  have hA : ∀ q : Nat, s.heap.size ≤ q → A q := fun q h => by rw [← hAe]; exact Or.inr h
  have hS : va_S A s.heap s.heap [] := va_S.rf
  have hP : va_P (dC, dI) vwCl [(aT, .inr (2, [.null, .null, .null, .int 0]))] s.heap := hP
  have hl := lv_entry ([.ref aT]) (n := 1) (Nat.le_of_ble_eq_true rfl)
  rw [lg_entry_eq]
  generalize (lg_sl ([.ref aT]) ++ List.replicate (1 - (lg_sl ([.ref aT])).length) Slot.unset).toArray = ls at hl ⊢
  have hl : lv_has ls 1 [(0, .ref aT)] := hl
  refine lv_aload_n hx hb d_Told_init_0 rfl (lv_at hl 0 rfl) ?_
  refine W.objInit hx hb hown (hwg _ kw_44) (hwg _ kw_31) (hwg _ kw_32) rfl (by rw [hml]; exact hl.1) rfl d_Told_init_1 (Nat.le_of_ble_eq_true rfl) (Nat.le_of_ble_eq_true rfl) ?_
  refine W.eq (g2 := F0 m 4 ls []) rfl ?_
  refine lv_aload_n hx hb d_Told_init_4 rfl (lv_at hl 0 rfl) ?_
  refine lv_bipush (v := 30) hx hb d_Told_init_5 (by decide) ?_
  refine va_newa (atype := .int) (a0 := (30, .inl (fun _ => 0))) (N' := 30) hx hb (hwg _ kw_39) (ty := .int) rfl hK hP hD hS hA (va_zero_int _) (by decide) rfl (by decide) (Nat.le_of_ble_eq_true rfl) (Nat.le_of_ble_eq_true rfl) d_Told_init_7 (fun q7 cA H7 hK9 hP hD hS => ?_)
  obtain rfl : cI = cA := va_same_int hK hK9
  have hP : va_P (dC, dI) vwCl [(aT, .inr (2, [.null, .null, .null, .int 0])), (q7, .inl (cI, 30, .inl (fun _ => 0)))] H7 := hP
  have hD : va_D A [(aT, .inr (2, [.null, .null, .null, .int 0])), (q7, .inl (cI, 30, .inl (fun _ => 0)))] := hD
  refine va_putF (D := (dC, dI)) (ci := 2) (v := .ref q7) (ty := (.array .int)) (C := R_Told) (T := F_Told) (N := 4) hx hb hwg iu_Told t_Told t_Told_ok n_Told hown hK hP hD hS 0 rfl rfl 0 (by decide) (hwg _ kw_45) (fun _ h9 => h9) rfl hin rfl (by decide +kernel) rfl rfl (Nat.le_of_ble_eq_true rfl) d_Told_init_9 (fun H9 locs hP hD hS => ?_)
  have hP : va_P (dC, dI) vwCl [(aT, .inr (2, [.ref q7, .null, .null, .int 0])), (q7, .inl (cI, 30, .inl (fun _ => 0)))] H9 := hP
  have hD : va_D A [(aT, .inr (2, [.ref q7, .null, .null, .int 0])), (q7, .inl (cI, 30, .inl (fun _ => 0)))] := hD
  refine lv_aload_n hx hb d_Told_init_12 rfl (lv_at hl 0 rfl) ?_
  refine lv_bipush (v := 30) hx hb d_Told_init_13 (by decide) ?_
  refine va_newa (atype := .int) (a0 := (30, .inl (fun _ => 0))) (N' := 30) hx hb (hwg _ kw_39) (ty := .int) rfl hK hP hD hS hA (va_zero_int _) (by decide) rfl (by decide) (Nat.le_of_ble_eq_true rfl) (Nat.le_of_ble_eq_true rfl) d_Told_init_15 (fun q15 cA H15 hK9 hP hD hS => ?_)
  obtain rfl : cI = cA := va_same_int hK hK9
  have hP : va_P (dC, dI) vwCl [(aT, .inr (2, [.ref q7, .null, .null, .int 0])), (q7, .inl (cI, 30, .inl (fun _ => 0))), (q15, .inl (cI, 30, .inl (fun _ => 0)))] H15 := hP
  have hD : va_D A [(aT, .inr (2, [.ref q7, .null, .null, .int 0])), (q7, .inl (cI, 30, .inl (fun _ => 0))), (q15, .inl (cI, 30, .inl (fun _ => 0)))] := hD
  refine va_putF (D := (dC, dI)) (ci := 2) (v := .ref q15) (ty := (.array .int)) (C := R_Told) (T := F_Told) (N := 4) hx hb hwg iu_Told t_Told t_Told_ok n_Told hown hK hP hD hS 0 rfl rfl 1 (by decide) (hwg _ kw_46) (fun _ h9 => h9) rfl hin rfl (by decide +kernel) rfl rfl (Nat.le_of_ble_eq_true rfl) d_Told_init_17 (fun H17 locs hP hD hS => ?_)
  have hP : va_P (dC, dI) vwCl [(aT, .inr (2, [.ref q7, .ref q15, .null, .int 0])), (q7, .inl (cI, 30, .inl (fun _ => 0))), (q15, .inl (cI, 30, .inl (fun _ => 0)))] H17 := hP
  have hD : va_D A [(aT, .inr (2, [.ref q7, .ref q15, .null, .int 0])), (q7, .inl (cI, 30, .inl (fun _ => 0))), (q15, .inl (cI, 30, .inl (fun _ => 0)))] := hD
  refine lv_aload_n hx hb d_Told_init_20 rfl (lv_at hl 0 rfl) ?_
  refine lv_bipush (v := 30) hx hb d_Told_init_21 (by decide) ?_
  refine va_newa (atype := .int) (a0 := (30, .inl (fun _ => 0))) (N' := 30) hx hb (hwg _ kw_39) (ty := .int) rfl hK hP hD hS hA (va_zero_int _) (by decide) rfl (by decide) (Nat.le_of_ble_eq_true rfl) (Nat.le_of_ble_eq_true rfl) d_Told_init_23 (fun q23 cA H23 hK9 hP hD hS => ?_)
  obtain rfl : cI = cA := va_same_int hK hK9
  have hP : va_P (dC, dI) vwCl [(aT, .inr (2, [.ref q7, .ref q15, .null, .int 0])), (q7, .inl (cI, 30, .inl (fun _ => 0))), (q15, .inl (cI, 30, .inl (fun _ => 0))), (q23, .inl (cI, 30, .inl (fun _ => 0)))] H23 := hP
  have hD : va_D A [(aT, .inr (2, [.ref q7, .ref q15, .null, .int 0])), (q7, .inl (cI, 30, .inl (fun _ => 0))), (q15, .inl (cI, 30, .inl (fun _ => 0))), (q23, .inl (cI, 30, .inl (fun _ => 0)))] := hD
  refine va_putF (D := (dC, dI)) (ci := 2) (v := .ref q23) (ty := (.array .int)) (C := R_Told) (T := F_Told) (N := 4) hx hb hwg iu_Told t_Told t_Told_ok n_Told hown hK hP hD hS 0 rfl rfl 2 (by decide) (hwg _ kw_47) (fun _ h9 => h9) rfl hin rfl (by decide +kernel) rfl rfl (Nat.le_of_ble_eq_true rfl) d_Told_init_25 (fun H25 locs hP hD hS => ?_)
  have hP : va_P (dC, dI) vwCl [(aT, .inr (2, [.ref q7, .ref q15, .ref q23, .int 0])), (q7, .inl (cI, 30, .inl (fun _ => 0))), (q15, .inl (cI, 30, .inl (fun _ => 0))), (q23, .inl (cI, 30, .inl (fun _ => 0)))] H25 := hP
  have hD : va_D A [(aT, .inr (2, [.ref q7, .ref q15, .ref q23, .int 0])), (q7, .inl (cI, 30, .inl (fun _ => 0))), (q15, .inl (cI, 30, .inl (fun _ => 0))), (q23, .inl (cI, 30, .inl (fun _ => 0)))] := hD
  have hP9 := hP.sub (ws' := [(aT, .inr (2, [.ref q7, .ref q15, .ref q23, .int 0])), (q7, .inl (cI, 30, .inl (fun _ => 0))), (q15, .inl (cI, 30, .inl (fun _ => 0))), (q23, .inl (cI, 30, .inl (fun _ => 0)))]) [0, 1, 2, 3] rfl
  have hD9 := hD.sub (ws' := [(aT, .inr (2, [.ref q7, .ref q15, .ref q23, .int 0])), (q7, .inl (cI, 30, .inl (fun _ => 0))), (q15, .inl (cI, 30, .inl (fun _ => 0))), (q23, .inl (cI, 30, .inl (fun _ => 0)))]) [0, 1, 2, 3] (by decide) rfl
  refine W.widen (k := 3) (n := 90) (by decide) (by decide) ?_
  exact W.vret hx hb hr (fun t ht hW => ⟨⟨(q7, q15, q23), rfl, trivial, by rw [ht]; exact hP9, hD9⟩, hS.F ht⟩) hS.2.2 d_Told_init_28
abbrev rm_Tank_init : Room := { frames := 1, cells := 2, slots := 7, locals := 12 }
set_option maxHeartbeats 4000000 in
set_option maxRecDepth 100000 in
theorem c_Tank_init (l : Launch) (dC : Nat → ClassId) (dI : Nat → Nat → Nat) (cI cL cZ : ClassId) (aK : Nat) (sz : Nat) : Met l y_Tank_init w_Tank_init rm_Tank_init (va_Pc [.ref aK] (c_pre dC dI cI cL cZ [(aK, .inr (3, [.null, .null, .int 0, .long 0, .long 0]))] sz)) (va_Qv (fun (_ : Nat × Nat) => True) (c_post dC dI (fun (u : Nat × Nat) => [(aK, .inr (3, [.ref u.1, .ref u.2, .int 1000000000, .long 0, .long 0])), (u.1, .inl (cL, 4, .inr (.inl (fun _ => 0)))), (u.2, .inl (cI, 3, .inl (fun _ => 0)))]) (va_A [(aK, .inr (3, [.null, .null, .int 0, .long 0, .long 0]))] sz)) (va_A [(aK, .inr (3, [.null, .null, .int 0, .long 0, .long 0]))] sz)) 2 7 (va_A [(aK, .inr (3, [.null, .null, .int 0, .long 0, .long 0]))] sz) := by
  refine Met.ofW (cc := b_Tank_init) (maxL := 1) (ret := none) (by decide) rfl ?_
  intro p e s m args below meth c s₁ B hml hv
  obtain ⟨rfl, hsz, hP, hK, hN, hD0⟩ := hv
  have hx := B.exec
  have hb := B.bytes
  have hr := B.returns
  have hts := atoms_spec (ws := w_Tank_init) B.pre
  have hown : s.vm.findClass R_Tank = some m.cls := findClass_of_methodNamed B.named
  have hlocks := B.notSynchronized
  have hwg : ∀ w ∈ wg, w.before ([.ref aK] : List Value).toArray s = true := fun w h => hts w (List.mem_cons_of_mem _ h)
  have hin : meth.name = "<init>" := (name_of_methodNamed B.named B.method).1
  subst hsz
  have hD := hD0.self (sz := s.heap.size)
  generalize hAe : va_A [(aK, .inr (3, [.null, .null, .int 0, .long 0, .long 0]))] s.heap.size = A at hD ⊢
  have hA : ∀ q : Nat, s.heap.size ≤ q → A q := fun q h => by rw [← hAe]; exact Or.inr h
  have hS : va_S A s.heap s.heap [] := va_S.rf
  have hP : va_P (dC, dI) vwCl [(aK, .inr (3, [.null, .null, .int 0, .long 0, .long 0]))] s.heap := hP
  have hl := lv_entry ([.ref aK]) (n := 1) (Nat.le_of_ble_eq_true rfl)
  rw [lg_entry_eq]
  generalize (lg_sl ([.ref aK]) ++ List.replicate (1 - (lg_sl ([.ref aK])).length) Slot.unset).toArray = ls at hl ⊢
  have hl : lv_has ls 1 [(0, .ref aK)] := hl
  refine lv_aload_n hx hb d_Tank_init_0 rfl (lv_at hl 0 rfl) ?_
  refine W.objInit hx hb hown (hwg _ kw_53) (hwg _ kw_31) (hwg _ kw_32) rfl (by rw [hml]; exact hl.1) rfl d_Tank_init_1 (Nat.le_of_ble_eq_true rfl) (Nat.le_of_ble_eq_true rfl) ?_
  refine W.eq (g2 := F0 m 4 ls []) rfl ?_
  refine lv_aload_n hx hb d_Tank_init_4 rfl (lv_at hl 0 rfl) ?_
  refine lv_iconst (v := 4) hx hb d_Tank_init_5 (by decide) ?_
  refine va_newa (atype := .long) (a0 := (4, .inr (.inl (fun _ => 0)))) (N' := 4) hx hb (hwg _ kw_60) (ty := .long) rfl hK hP hD hS hA (va_zero_long _) (by decide) rfl (by decide) (Nat.le_of_ble_eq_true rfl) (Nat.le_of_ble_eq_true rfl) d_Tank_init_6 (fun q6 cA H6 hK9 hP hD hS => ?_)
  obtain rfl : cL = cA := va_same_long hK hK9
  have hP : va_P (dC, dI) vwCl [(aK, .inr (3, [.null, .null, .int 0, .long 0, .long 0])), (q6, .inl (cL, 4, .inr (.inl (fun _ => 0))))] H6 := hP
  have hD : va_D A [(aK, .inr (3, [.null, .null, .int 0, .long 0, .long 0])), (q6, .inl (cL, 4, .inr (.inl (fun _ => 0))))] := hD
  refine va_putF (D := (dC, dI)) (ci := 3) (v := .ref q6) (ty := (.array .long)) (C := R_Tank) (T := F_Tank) (N := 5) hx hb hwg iu_Tank t_Tank t_Tank_ok n_Tank hown hK hP hD hS 0 rfl rfl 0 (by decide) (hwg _ kw_55) (fun _ h9 => h9) rfl hin rfl (by decide +kernel) rfl rfl (Nat.le_of_ble_eq_true rfl) d_Tank_init_8 (fun H8 locs hP hD hS => ?_)
  have hP : va_P (dC, dI) vwCl [(aK, .inr (3, [.ref q6, .null, .int 0, .long 0, .long 0])), (q6, .inl (cL, 4, .inr (.inl (fun _ => 0))))] H8 := hP
  have hD : va_D A [(aK, .inr (3, [.ref q6, .null, .int 0, .long 0, .long 0])), (q6, .inl (cL, 4, .inr (.inl (fun _ => 0))))] := hD
  refine lv_aload_n hx hb d_Tank_init_11 rfl (lv_at hl 0 rfl) ?_
  refine lv_iconst (v := 3) hx hb d_Tank_init_12 (by decide) ?_
  refine va_newa (atype := .int) (a0 := (3, .inl (fun _ => 0))) (N' := 3) hx hb (hwg _ kw_39) (ty := .int) rfl hK hP hD hS hA (va_zero_int _) (by decide) rfl (by decide) (Nat.le_of_ble_eq_true rfl) (Nat.le_of_ble_eq_true rfl) d_Tank_init_13 (fun q13 cA H13 hK9 hP hD hS => ?_)
  obtain rfl : cI = cA := va_same_int hK hK9
  have hP : va_P (dC, dI) vwCl [(aK, .inr (3, [.ref q6, .null, .int 0, .long 0, .long 0])), (q6, .inl (cL, 4, .inr (.inl (fun _ => 0)))), (q13, .inl (cI, 3, .inl (fun _ => 0)))] H13 := hP
  have hD : va_D A [(aK, .inr (3, [.ref q6, .null, .int 0, .long 0, .long 0])), (q6, .inl (cL, 4, .inr (.inl (fun _ => 0)))), (q13, .inl (cI, 3, .inl (fun _ => 0)))] := hD
  refine va_putF (D := (dC, dI)) (ci := 3) (v := .ref q13) (ty := (.array .int)) (C := R_Tank) (T := F_Tank) (N := 5) hx hb hwg iu_Tank t_Tank t_Tank_ok n_Tank hown hK hP hD hS 0 rfl rfl 1 (by decide) (hwg _ kw_56) (fun _ h9 => h9) rfl hin rfl (by decide +kernel) rfl rfl (Nat.le_of_ble_eq_true rfl) d_Tank_init_15 (fun H15 locs hP hD hS => ?_)
  have hP : va_P (dC, dI) vwCl [(aK, .inr (3, [.ref q6, .ref q13, .int 0, .long 0, .long 0])), (q6, .inl (cL, 4, .inr (.inl (fun _ => 0)))), (q13, .inl (cI, 3, .inl (fun _ => 0)))] H15 := hP
  have hD : va_D A [(aK, .inr (3, [.ref q6, .ref q13, .int 0, .long 0, .long 0])), (q6, .inl (cL, 4, .inr (.inl (fun _ => 0)))), (q13, .inl (cI, 3, .inl (fun _ => 0)))] := hD
  refine lv_aload_n hx hb d_Tank_init_18 rfl (lv_at hl 0 rfl) ?_
  refine lv_ldc hx hb hown (hwg _ kw_54) d_Tank_init_19 ?_
  refine va_put (D := (dC, dI)) (ci := 3) (v := .int 1000000000) (ty := .int) (C := R_Tank) (T := F_Tank) (N := 5) hx hb hwg iu_Tank t_Tank t_Tank_ok n_Tank hown hK hP hD hS 0 rfl rfl 2 (by decide) (hwg _ kw_57) (fun _ h9 => h9) rfl (by decide +kernel) rfl rfl (Nat.le_of_ble_eq_true rfl) d_Tank_init_21 (fun H21 locs hP hD hS => ?_)
  have hP : va_P (dC, dI) vwCl [(aK, .inr (3, [.ref q6, .ref q13, .int 1000000000, .long 0, .long 0])), (q6, .inl (cL, 4, .inr (.inl (fun _ => 0)))), (q13, .inl (cI, 3, .inl (fun _ => 0)))] H21 := hP
  have hD : va_D A [(aK, .inr (3, [.ref q6, .ref q13, .int 1000000000, .long 0, .long 0])), (q6, .inl (cL, 4, .inr (.inl (fun _ => 0)))), (q13, .inl (cI, 3, .inl (fun _ => 0)))] := hD
  have hP9 := hP.sub (ws' := [(aK, .inr (3, [.ref q6, .ref q13, .int 1000000000, .long 0, .long 0])), (q6, .inl (cL, 4, .inr (.inl (fun _ => 0)))), (q13, .inl (cI, 3, .inl (fun _ => 0)))]) [0, 1, 2] rfl
  have hD9 := hD.sub (ws' := [(aK, .inr (3, [.ref q6, .ref q13, .int 1000000000, .long 0, .long 0])), (q6, .inl (cL, 4, .inr (.inl (fun _ => 0)))), (q13, .inl (cI, 3, .inl (fun _ => 0)))]) [0, 1, 2] (by decide) rfl
  refine W.widen (k := 2) (n := 7) (by decide) (by decide) ?_
  exact W.vret hx hb hr (fun t ht hW => ⟨⟨(q6, q13), rfl, trivial, by rw [ht]; exact hP9, hD9⟩, hS.F ht⟩) hS.2.2 d_Tank_init_24
abbrev rm_GasStore_init : Room := { frames := 1, cells := 4, slots := 16, locals := 12 }
set_option maxHeartbeats 4000000 in
set_option maxRecDepth 100000 in
theorem c_GasStore_init (l : Launch) (dC : Nat → ClassId) (dI : Nat → Nat → Nat) (cI cL cZ : ClassId) (aG : Nat) (sz : Nat) : Met l y_GasStore_init w_GasStore_init rm_GasStore_init (va_Pc [.ref aG] (c_pre dC dI cI cL cZ [(aG, .inr (4, [.null, .null, .null, .null, .int 0, .int 0, .long 0, .long 0, .long 0]))] sz)) (va_Qv (fun (_ : Nat × Nat × Nat × Nat) => True) (c_post dC dI (fun (u : Nat × Nat × Nat × Nat) => [(aG, .inr (4, [.ref u.1, .ref u.2.1, .ref u.2.2.1, .ref u.2.2.2, .int 0, .int 0, .long 0, .long 0, .long 0])), (u.1, .inl (cI, 4, .inl (fun _ => 0))), (u.2.1, .inl (cI, 4, .inl (fun _ => 0))), (u.2.2.1, .inl (cL, 4, .inr (.inl (fun _ => 0)))), (u.2.2.2, .inl (cI, 4, .inl (fun _ => 0)))]) (va_A [(aG, .inr (4, [.null, .null, .null, .null, .int 0, .int 0, .long 0, .long 0, .long 0]))] sz)) (va_A [(aG, .inr (4, [.null, .null, .null, .null, .int 0, .int 0, .long 0, .long 0, .long 0]))] sz)) 4 16 (va_A [(aG, .inr (4, [.null, .null, .null, .null, .int 0, .int 0, .long 0, .long 0, .long 0]))] sz) := by
  refine Met.ofW (cc := b_GasStore_init) (maxL := 1) (ret := none) (by decide) rfl ?_
  intro p e s m args below meth c s₁ B hml hv
  obtain ⟨rfl, hsz, hP, hK, hN, hD0⟩ := hv
  have hx := B.exec
  have hb := B.bytes
  have hr := B.returns
  have hts := atoms_spec (ws := w_GasStore_init) B.pre
  have hown : s.vm.findClass R_GasStore = some m.cls := findClass_of_methodNamed B.named
  have hlocks := B.notSynchronized
  have hwg : ∀ w ∈ wg, w.before ([.ref aG] : List Value).toArray s = true := fun w h => hts w (List.mem_cons_of_mem _ h)
  have hin : meth.name = "<init>" := (name_of_methodNamed B.named B.method).1
  subst hsz
  have hD := hD0.self (sz := s.heap.size)
  generalize hAe : va_A [(aG, .inr (4, [.null, .null, .null, .null, .int 0, .int 0, .long 0, .long 0, .long 0]))] s.heap.size = A at hD ⊢
  have hA : ∀ q : Nat, s.heap.size ≤ q → A q := fun q h => by rw [← hAe]; exact Or.inr h
  have hS : va_S A s.heap s.heap [] := va_S.rf
  have hP : va_P (dC, dI) vwCl [(aG, .inr (4, [.null, .null, .null, .null, .int 0, .int 0, .long 0, .long 0, .long 0]))] s.heap := hP
  have hl := lv_entry ([.ref aG]) (n := 1) (Nat.le_of_ble_eq_true rfl)
  rw [lg_entry_eq]
  generalize (lg_sl ([.ref aG]) ++ List.replicate (1 - (lg_sl ([.ref aG])).length) Slot.unset).toArray = ls at hl ⊢
  have hl : lv_has ls 1 [(0, .ref aG)] := hl
  refine lv_aload_n hx hb d_GasStore_init_0 rfl (lv_at hl 0 rfl) ?_
  refine W.objInit hx hb hown (hwg _ kw_65) (hwg _ kw_31) (hwg _ kw_32) rfl (by rw [hml]; exact hl.1) rfl d_GasStore_init_1 (Nat.le_of_ble_eq_true rfl) (Nat.le_of_ble_eq_true rfl) ?_
  refine W.eq (g2 := F0 m 4 ls []) rfl ?_
  refine lv_aload_n hx hb d_GasStore_init_4 rfl (lv_at hl 0 rfl) ?_
  refine lv_iconst (v := 4) hx hb d_GasStore_init_5 (by decide) ?_
  refine va_newa (atype := .int) (a0 := (4, .inl (fun _ => 0))) (N' := 4) hx hb (hwg _ kw_39) (ty := .int) rfl hK hP hD hS hA (va_zero_int _) (by decide) rfl (by decide) (Nat.le_of_ble_eq_true rfl) (Nat.le_of_ble_eq_true rfl) d_GasStore_init_6 (fun q6 cA H6 hK9 hP hD hS => ?_)
  obtain rfl : cI = cA := va_same_int hK hK9
  have hP : va_P (dC, dI) vwCl [(aG, .inr (4, [.null, .null, .null, .null, .int 0, .int 0, .long 0, .long 0, .long 0])), (q6, .inl (cI, 4, .inl (fun _ => 0)))] H6 := hP
  have hD : va_D A [(aG, .inr (4, [.null, .null, .null, .null, .int 0, .int 0, .long 0, .long 0, .long 0])), (q6, .inl (cI, 4, .inl (fun _ => 0)))] := hD
  refine va_putF (D := (dC, dI)) (ci := 4) (v := .ref q6) (ty := (.array .int)) (C := R_GasStore) (T := F_GasStore) (N := 9) hx hb hwg iu_GasStore t_GasStore t_GasStore_ok n_GasStore hown hK hP hD hS 0 rfl rfl 0 (by decide) (hwg _ kw_66) (fun _ h9 => h9) rfl hin rfl (by decide +kernel) rfl rfl (Nat.le_of_ble_eq_true rfl) d_GasStore_init_8 (fun H8 locs hP hD hS => ?_)
  have hP : va_P (dC, dI) vwCl [(aG, .inr (4, [.ref q6, .null, .null, .null, .int 0, .int 0, .long 0, .long 0, .long 0])), (q6, .inl (cI, 4, .inl (fun _ => 0)))] H8 := hP
  have hD : va_D A [(aG, .inr (4, [.ref q6, .null, .null, .null, .int 0, .int 0, .long 0, .long 0, .long 0])), (q6, .inl (cI, 4, .inl (fun _ => 0)))] := hD
  refine lv_aload_n hx hb d_GasStore_init_11 rfl (lv_at hl 0 rfl) ?_
  refine lv_iconst (v := 4) hx hb d_GasStore_init_12 (by decide) ?_
  refine va_newa (atype := .int) (a0 := (4, .inl (fun _ => 0))) (N' := 4) hx hb (hwg _ kw_39) (ty := .int) rfl hK hP hD hS hA (va_zero_int _) (by decide) rfl (by decide) (Nat.le_of_ble_eq_true rfl) (Nat.le_of_ble_eq_true rfl) d_GasStore_init_13 (fun q13 cA H13 hK9 hP hD hS => ?_)
  obtain rfl : cI = cA := va_same_int hK hK9
  have hP : va_P (dC, dI) vwCl [(aG, .inr (4, [.ref q6, .null, .null, .null, .int 0, .int 0, .long 0, .long 0, .long 0])), (q6, .inl (cI, 4, .inl (fun _ => 0))), (q13, .inl (cI, 4, .inl (fun _ => 0)))] H13 := hP
  have hD : va_D A [(aG, .inr (4, [.ref q6, .null, .null, .null, .int 0, .int 0, .long 0, .long 0, .long 0])), (q6, .inl (cI, 4, .inl (fun _ => 0))), (q13, .inl (cI, 4, .inl (fun _ => 0)))] := hD
  refine va_putF (D := (dC, dI)) (ci := 4) (v := .ref q13) (ty := (.array .int)) (C := R_GasStore) (T := F_GasStore) (N := 9) hx hb hwg iu_GasStore t_GasStore t_GasStore_ok n_GasStore hown hK hP hD hS 0 rfl rfl 1 (by decide) (hwg _ kw_67) (fun _ h9 => h9) rfl hin rfl (by decide +kernel) rfl rfl (Nat.le_of_ble_eq_true rfl) d_GasStore_init_15 (fun H15 locs hP hD hS => ?_)
  have hP : va_P (dC, dI) vwCl [(aG, .inr (4, [.ref q6, .ref q13, .null, .null, .int 0, .int 0, .long 0, .long 0, .long 0])), (q6, .inl (cI, 4, .inl (fun _ => 0))), (q13, .inl (cI, 4, .inl (fun _ => 0)))] H15 := hP
  have hD : va_D A [(aG, .inr (4, [.ref q6, .ref q13, .null, .null, .int 0, .int 0, .long 0, .long 0, .long 0])), (q6, .inl (cI, 4, .inl (fun _ => 0))), (q13, .inl (cI, 4, .inl (fun _ => 0)))] := hD
  refine lv_aload_n hx hb d_GasStore_init_18 rfl (lv_at hl 0 rfl) ?_
  refine lv_iconst (v := 4) hx hb d_GasStore_init_19 (by decide) ?_
  refine va_newa (atype := .long) (a0 := (4, .inr (.inl (fun _ => 0)))) (N' := 4) hx hb (hwg _ kw_60) (ty := .long) rfl hK hP hD hS hA (va_zero_long _) (by decide) rfl (by decide) (Nat.le_of_ble_eq_true rfl) (Nat.le_of_ble_eq_true rfl) d_GasStore_init_20 (fun q20 cA H20 hK9 hP hD hS => ?_)
  obtain rfl : cL = cA := va_same_long hK hK9
  have hP : va_P (dC, dI) vwCl [(aG, .inr (4, [.ref q6, .ref q13, .null, .null, .int 0, .int 0, .long 0, .long 0, .long 0])), (q6, .inl (cI, 4, .inl (fun _ => 0))), (q13, .inl (cI, 4, .inl (fun _ => 0))), (q20, .inl (cL, 4, .inr (.inl (fun _ => 0))))] H20 := hP
  have hD : va_D A [(aG, .inr (4, [.ref q6, .ref q13, .null, .null, .int 0, .int 0, .long 0, .long 0, .long 0])), (q6, .inl (cI, 4, .inl (fun _ => 0))), (q13, .inl (cI, 4, .inl (fun _ => 0))), (q20, .inl (cL, 4, .inr (.inl (fun _ => 0))))] := hD
  refine va_putF (D := (dC, dI)) (ci := 4) (v := .ref q20) (ty := (.array .long)) (C := R_GasStore) (T := F_GasStore) (N := 9) hx hb hwg iu_GasStore t_GasStore t_GasStore_ok n_GasStore hown hK hP hD hS 0 rfl rfl 2 (by decide) (hwg _ kw_68) (fun _ h9 => h9) rfl hin rfl (by decide +kernel) rfl rfl (Nat.le_of_ble_eq_true rfl) d_GasStore_init_22 (fun H22 locs hP hD hS => ?_)
  have hP : va_P (dC, dI) vwCl [(aG, .inr (4, [.ref q6, .ref q13, .ref q20, .null, .int 0, .int 0, .long 0, .long 0, .long 0])), (q6, .inl (cI, 4, .inl (fun _ => 0))), (q13, .inl (cI, 4, .inl (fun _ => 0))), (q20, .inl (cL, 4, .inr (.inl (fun _ => 0))))] H22 := hP
  have hD : va_D A [(aG, .inr (4, [.ref q6, .ref q13, .ref q20, .null, .int 0, .int 0, .long 0, .long 0, .long 0])), (q6, .inl (cI, 4, .inl (fun _ => 0))), (q13, .inl (cI, 4, .inl (fun _ => 0))), (q20, .inl (cL, 4, .inr (.inl (fun _ => 0))))] := hD
  refine lv_aload_n hx hb d_GasStore_init_25 rfl (lv_at hl 0 rfl) ?_
  refine lv_iconst (v := 4) hx hb d_GasStore_init_26 (by decide) ?_
  refine va_newa (atype := .int) (a0 := (4, .inl (fun _ => 0))) (N' := 4) hx hb (hwg _ kw_39) (ty := .int) rfl hK hP hD hS hA (va_zero_int _) (by decide) rfl (by decide) (Nat.le_of_ble_eq_true rfl) (Nat.le_of_ble_eq_true rfl) d_GasStore_init_27 (fun q27 cA H27 hK9 hP hD hS => ?_)
  obtain rfl : cI = cA := va_same_int hK hK9
  have hP : va_P (dC, dI) vwCl [(aG, .inr (4, [.ref q6, .ref q13, .ref q20, .null, .int 0, .int 0, .long 0, .long 0, .long 0])), (q6, .inl (cI, 4, .inl (fun _ => 0))), (q13, .inl (cI, 4, .inl (fun _ => 0))), (q20, .inl (cL, 4, .inr (.inl (fun _ => 0)))), (q27, .inl (cI, 4, .inl (fun _ => 0)))] H27 := hP
  have hD : va_D A [(aG, .inr (4, [.ref q6, .ref q13, .ref q20, .null, .int 0, .int 0, .long 0, .long 0, .long 0])), (q6, .inl (cI, 4, .inl (fun _ => 0))), (q13, .inl (cI, 4, .inl (fun _ => 0))), (q20, .inl (cL, 4, .inr (.inl (fun _ => 0)))), (q27, .inl (cI, 4, .inl (fun _ => 0)))] := hD
  refine va_putF (D := (dC, dI)) (ci := 4) (v := .ref q27) (ty := (.array .int)) (C := R_GasStore) (T := F_GasStore) (N := 9) hx hb hwg iu_GasStore t_GasStore t_GasStore_ok n_GasStore hown hK hP hD hS 0 rfl rfl 3 (by decide) (hwg _ kw_69) (fun _ h9 => h9) rfl hin rfl (by decide +kernel) rfl rfl (Nat.le_of_ble_eq_true rfl) d_GasStore_init_29 (fun H29 locs hP hD hS => ?_)
  have hP : va_P (dC, dI) vwCl [(aG, .inr (4, [.ref q6, .ref q13, .ref q20, .ref q27, .int 0, .int 0, .long 0, .long 0, .long 0])), (q6, .inl (cI, 4, .inl (fun _ => 0))), (q13, .inl (cI, 4, .inl (fun _ => 0))), (q20, .inl (cL, 4, .inr (.inl (fun _ => 0)))), (q27, .inl (cI, 4, .inl (fun _ => 0)))] H29 := hP
  have hD : va_D A [(aG, .inr (4, [.ref q6, .ref q13, .ref q20, .ref q27, .int 0, .int 0, .long 0, .long 0, .long 0])), (q6, .inl (cI, 4, .inl (fun _ => 0))), (q13, .inl (cI, 4, .inl (fun _ => 0))), (q20, .inl (cL, 4, .inr (.inl (fun _ => 0)))), (q27, .inl (cI, 4, .inl (fun _ => 0)))] := hD
  have hP9 := hP.sub (ws' := [(aG, .inr (4, [.ref q6, .ref q13, .ref q20, .ref q27, .int 0, .int 0, .long 0, .long 0, .long 0])), (q6, .inl (cI, 4, .inl (fun _ => 0))), (q13, .inl (cI, 4, .inl (fun _ => 0))), (q20, .inl (cL, 4, .inr (.inl (fun _ => 0)))), (q27, .inl (cI, 4, .inl (fun _ => 0)))]) [0, 1, 2, 3, 4] rfl
  have hD9 := hD.sub (ws' := [(aG, .inr (4, [.ref q6, .ref q13, .ref q20, .ref q27, .int 0, .int 0, .long 0, .long 0, .long 0])), (q6, .inl (cI, 4, .inl (fun _ => 0))), (q13, .inl (cI, 4, .inl (fun _ => 0))), (q20, .inl (cL, 4, .inr (.inl (fun _ => 0)))), (q27, .inl (cI, 4, .inl (fun _ => 0)))]) [0, 1, 2, 3, 4] (by decide) rfl
  refine W.widen (k := 4) (n := 16) (by decide) (by decide) ?_
  exact W.vret hx hb hr (fun t ht hW => ⟨⟨(q6, q13, q20, q27), rfl, trivial, by rw [ht]; exact hP9, hD9⟩, hS.F ht⟩) hS.2.2 d_GasStore_init_32
abbrev rm_AcidPeaks_init : Room := { frames := 1, cells := 1, slots := 64, locals := 12 }
set_option maxHeartbeats 4000000 in
set_option maxRecDepth 100000 in
theorem c_AcidPeaks_init (l : Launch) (dC : Nat → ClassId) (dI : Nat → Nat → Nat) (cI cL cZ : ClassId) (aP : Nat) (sz : Nat) : Met l y_AcidPeaks_init w_AcidPeaks_init rm_AcidPeaks_init (va_Pc [.ref aP] (c_pre dC dI cI cL cZ [(aP, .inr (5, [.null, .int 0]))] sz)) (va_Qv (fun (_ : Nat) => True) (c_post dC dI (fun (u : Nat) => [(aP, .inr (5, [.ref u, .int 0])), (u, .inl (cL, 64, .inr (.inl (fun _ => 0))))]) (va_A [(aP, .inr (5, [.null, .int 0]))] sz)) (va_A [(aP, .inr (5, [.null, .int 0]))] sz)) 1 64 (va_A [(aP, .inr (5, [.null, .int 0]))] sz) := by
  refine Met.ofW (cc := b_AcidPeaks_init) (maxL := 1) (ret := none) (by decide) rfl ?_
  intro p e s m args below meth c s₁ B hml hv
  obtain ⟨rfl, hsz, hP, hK, hN, hD0⟩ := hv
  have hx := B.exec
  have hb := B.bytes
  have hr := B.returns
  have hts := atoms_spec (ws := w_AcidPeaks_init) B.pre
  have hown : s.vm.findClass R_AcidPeaks = some m.cls := findClass_of_methodNamed B.named
  have hlocks := B.notSynchronized
  have hwg : ∀ w ∈ wg, w.before ([.ref aP] : List Value).toArray s = true := fun w h => hts w (List.mem_cons_of_mem _ h)
  have hin : meth.name = "<init>" := (name_of_methodNamed B.named B.method).1
  subst hsz
  have hD := hD0.self (sz := s.heap.size)
  generalize hAe : va_A [(aP, .inr (5, [.null, .int 0]))] s.heap.size = A at hD ⊢
  have hA : ∀ q : Nat, s.heap.size ≤ q → A q := fun q h => by rw [← hAe]; exact Or.inr h
  have hS : va_S A s.heap s.heap [] := va_S.rf
  have hP : va_P (dC, dI) vwCl [(aP, .inr (5, [.null, .int 0]))] s.heap := hP
  have hl := lv_entry ([.ref aP]) (n := 1) (Nat.le_of_ble_eq_true rfl)
  rw [lg_entry_eq]
  generalize (lg_sl ([.ref aP]) ++ List.replicate (1 - (lg_sl ([.ref aP])).length) Slot.unset).toArray = ls at hl ⊢
  have hl : lv_has ls 1 [(0, .ref aP)] := hl
  refine lv_aload_n hx hb d_AcidPeaks_init_0 rfl (lv_at hl 0 rfl) ?_
  refine W.objInit hx hb hown (hwg _ kw_79) (hwg _ kw_31) (hwg _ kw_32) rfl (by rw [hml]; exact hl.1) rfl d_AcidPeaks_init_1 (Nat.le_of_ble_eq_true rfl) (Nat.le_of_ble_eq_true rfl) ?_
  refine W.eq (g2 := F0 m 4 ls []) rfl ?_
  refine lv_aload_n hx hb d_AcidPeaks_init_4 rfl (lv_at hl 0 rfl) ?_
  refine lv_bipush (v := 64) hx hb d_AcidPeaks_init_5 (by decide) ?_
  refine va_newa (atype := .long) (a0 := (64, .inr (.inl (fun _ => 0)))) (N' := 64) hx hb (hwg _ kw_60) (ty := .long) rfl hK hP hD hS hA (va_zero_long _) (by decide) rfl (by decide) (Nat.le_of_ble_eq_true rfl) (Nat.le_of_ble_eq_true rfl) d_AcidPeaks_init_7 (fun q7 cA H7 hK9 hP hD hS => ?_)
  obtain rfl : cL = cA := va_same_long hK hK9
  have hP : va_P (dC, dI) vwCl [(aP, .inr (5, [.null, .int 0])), (q7, .inl (cL, 64, .inr (.inl (fun _ => 0))))] H7 := hP
  have hD : va_D A [(aP, .inr (5, [.null, .int 0])), (q7, .inl (cL, 64, .inr (.inl (fun _ => 0))))] := hD
  refine va_put (D := (dC, dI)) (ci := 5) (v := .ref q7) (ty := (.array .long)) (C := R_AcidPeaks) (T := F_AcidPeaks) (N := 2) hx hb hwg iu_AcidPeaks t_AcidPeaks t_AcidPeaks_ok n_AcidPeaks hown hK hP hD hS 0 rfl rfl 0 (by decide) (hwg _ kw_80) (fun _ h9 => h9) rfl (by decide +kernel) rfl rfl (Nat.le_of_ble_eq_true rfl) d_AcidPeaks_init_9 (fun H9 locs hP hD hS => ?_)
  have hP : va_P (dC, dI) vwCl [(aP, .inr (5, [.ref q7, .int 0])), (q7, .inl (cL, 64, .inr (.inl (fun _ => 0))))] H9 := hP
  have hD : va_D A [(aP, .inr (5, [.ref q7, .int 0])), (q7, .inl (cL, 64, .inr (.inl (fun _ => 0))))] := hD
  have hP9 := hP.sub (ws' := [(aP, .inr (5, [.ref q7, .int 0])), (q7, .inl (cL, 64, .inr (.inl (fun _ => 0))))]) [0, 1] rfl
  have hD9 := hD.sub (ws' := [(aP, .inr (5, [.ref q7, .int 0])), (q7, .inl (cL, 64, .inr (.inl (fun _ => 0))))]) [0, 1] (by decide) rfl
  refine W.widen (k := 1) (n := 64) (by decide) (by decide) ?_
  exact W.vret hx hb hr (fun t ht hW => ⟨⟨(q7), rfl, trivial, by rw [ht]; exact hP9, hD9⟩, hS.F ht⟩) hS.2.2 d_AcidPeaks_init_12
abbrev rm_Planner_init : Room := { frames := 1, cells := 4, slots := 16, locals := 12 }
set_option maxHeartbeats 4000000 in
set_option maxRecDepth 100000 in
theorem c_Planner_init (l : Launch) (dC : Nat → ClassId) (dI : Nat → Nat → Nat) (cI cL cZ : ClassId) (aL : Nat) (sz : Nat) : Met l y_Planner_init w_Planner_init rm_Planner_init (va_Pc [.ref aL] (c_pre dC dI cI cL cZ [(aL, .inr (6, [.null, .null, .null, .null, .int 0]))] sz)) (va_Qv (fun (_ : Nat × Nat × Nat × Nat) => True) (c_post dC dI (fun (u : Nat × Nat × Nat × Nat) => [(aL, .inr (6, [.ref u.1, .ref u.2.1, .ref u.2.2.1, .ref u.2.2.2, .int 0])), (u.1, .inl (cI, 4, .inl (fun _ => 0))), (u.2.1, .inl (cI, 4, .inl (fun _ => 0))), (u.2.2.1, .inl (cI, 4, .inl (fun _ => 0))), (u.2.2.2, .inl (cI, 4, .inl (fun _ => 0)))]) (va_A [(aL, .inr (6, [.null, .null, .null, .null, .int 0]))] sz)) (va_A [(aL, .inr (6, [.null, .null, .null, .null, .int 0]))] sz)) 4 16 (va_A [(aL, .inr (6, [.null, .null, .null, .null, .int 0]))] sz) := by
  refine Met.ofW (cc := b_Planner_init) (maxL := 1) (ret := none) (by decide) rfl ?_
  intro p e s m args below meth c s₁ B hml hv
  obtain ⟨rfl, hsz, hP, hK, hN, hD0⟩ := hv
  have hx := B.exec
  have hb := B.bytes
  have hr := B.returns
  have hts := atoms_spec (ws := w_Planner_init) B.pre
  have hown : s.vm.findClass R_Planner = some m.cls := findClass_of_methodNamed B.named
  have hlocks := B.notSynchronized
  have hwg : ∀ w ∈ wg, w.before ([.ref aL] : List Value).toArray s = true := fun w h => hts w (List.mem_cons_of_mem _ h)
  have hin : meth.name = "<init>" := (name_of_methodNamed B.named B.method).1
  subst hsz
  have hD := hD0.self (sz := s.heap.size)
  generalize hAe : va_A [(aL, .inr (6, [.null, .null, .null, .null, .int 0]))] s.heap.size = A at hD ⊢
  have hA : ∀ q : Nat, s.heap.size ≤ q → A q := fun q h => by rw [← hAe]; exact Or.inr h
  have hS : va_S A s.heap s.heap [] := va_S.rf
  have hP : va_P (dC, dI) vwCl [(aL, .inr (6, [.null, .null, .null, .null, .int 0]))] s.heap := hP
  have hl := lv_entry ([.ref aL]) (n := 1) (Nat.le_of_ble_eq_true rfl)
  rw [lg_entry_eq]
  generalize (lg_sl ([.ref aL]) ++ List.replicate (1 - (lg_sl ([.ref aL])).length) Slot.unset).toArray = ls at hl ⊢
  have hl : lv_has ls 1 [(0, .ref aL)] := hl
  refine lv_aload_n hx hb d_Planner_init_0 rfl (lv_at hl 0 rfl) ?_
  refine W.objInit hx hb hown (hwg _ kw_86) (hwg _ kw_31) (hwg _ kw_32) rfl (by rw [hml]; exact hl.1) rfl d_Planner_init_1 (Nat.le_of_ble_eq_true rfl) (Nat.le_of_ble_eq_true rfl) ?_
  refine W.eq (g2 := F0 m 4 ls []) rfl ?_
  refine lv_aload_n hx hb d_Planner_init_4 rfl (lv_at hl 0 rfl) ?_
  refine lv_iconst (v := 4) hx hb d_Planner_init_5 (by decide) ?_
  refine va_newa (atype := .int) (a0 := (4, .inl (fun _ => 0))) (N' := 4) hx hb (hwg _ kw_39) (ty := .int) rfl hK hP hD hS hA (va_zero_int _) (by decide) rfl (by decide) (Nat.le_of_ble_eq_true rfl) (Nat.le_of_ble_eq_true rfl) d_Planner_init_6 (fun q6 cA H6 hK9 hP hD hS => ?_)
  obtain rfl : cI = cA := va_same_int hK hK9
  have hP : va_P (dC, dI) vwCl [(aL, .inr (6, [.null, .null, .null, .null, .int 0])), (q6, .inl (cI, 4, .inl (fun _ => 0)))] H6 := hP
  have hD : va_D A [(aL, .inr (6, [.null, .null, .null, .null, .int 0])), (q6, .inl (cI, 4, .inl (fun _ => 0)))] := hD
  refine va_putF (D := (dC, dI)) (ci := 6) (v := .ref q6) (ty := (.array .int)) (C := R_Planner) (T := F_Planner) (N := 5) hx hb hwg iu_Planner t_Planner t_Planner_ok n_Planner hown hK hP hD hS 0 rfl rfl 0 (by decide) (hwg _ kw_87) (fun _ h9 => h9) rfl hin rfl (by decide +kernel) rfl rfl (Nat.le_of_ble_eq_true rfl) d_Planner_init_8 (fun H8 locs hP hD hS => ?_)
  have hP : va_P (dC, dI) vwCl [(aL, .inr (6, [.ref q6, .null, .null, .null, .int 0])), (q6, .inl (cI, 4, .inl (fun _ => 0)))] H8 := hP
  have hD : va_D A [(aL, .inr (6, [.ref q6, .null, .null, .null, .int 0])), (q6, .inl (cI, 4, .inl (fun _ => 0)))] := hD
  refine lv_aload_n hx hb d_Planner_init_11 rfl (lv_at hl 0 rfl) ?_
  refine lv_iconst (v := 4) hx hb d_Planner_init_12 (by decide) ?_
  refine va_newa (atype := .int) (a0 := (4, .inl (fun _ => 0))) (N' := 4) hx hb (hwg _ kw_39) (ty := .int) rfl hK hP hD hS hA (va_zero_int _) (by decide) rfl (by decide) (Nat.le_of_ble_eq_true rfl) (Nat.le_of_ble_eq_true rfl) d_Planner_init_13 (fun q13 cA H13 hK9 hP hD hS => ?_)
  obtain rfl : cI = cA := va_same_int hK hK9
  have hP : va_P (dC, dI) vwCl [(aL, .inr (6, [.ref q6, .null, .null, .null, .int 0])), (q6, .inl (cI, 4, .inl (fun _ => 0))), (q13, .inl (cI, 4, .inl (fun _ => 0)))] H13 := hP
  have hD : va_D A [(aL, .inr (6, [.ref q6, .null, .null, .null, .int 0])), (q6, .inl (cI, 4, .inl (fun _ => 0))), (q13, .inl (cI, 4, .inl (fun _ => 0)))] := hD
  refine va_putF (D := (dC, dI)) (ci := 6) (v := .ref q13) (ty := (.array .int)) (C := R_Planner) (T := F_Planner) (N := 5) hx hb hwg iu_Planner t_Planner t_Planner_ok n_Planner hown hK hP hD hS 0 rfl rfl 1 (by decide) (hwg _ kw_88) (fun _ h9 => h9) rfl hin rfl (by decide +kernel) rfl rfl (Nat.le_of_ble_eq_true rfl) d_Planner_init_15 (fun H15 locs hP hD hS => ?_)
  have hP : va_P (dC, dI) vwCl [(aL, .inr (6, [.ref q6, .ref q13, .null, .null, .int 0])), (q6, .inl (cI, 4, .inl (fun _ => 0))), (q13, .inl (cI, 4, .inl (fun _ => 0)))] H15 := hP
  have hD : va_D A [(aL, .inr (6, [.ref q6, .ref q13, .null, .null, .int 0])), (q6, .inl (cI, 4, .inl (fun _ => 0))), (q13, .inl (cI, 4, .inl (fun _ => 0)))] := hD
  refine lv_aload_n hx hb d_Planner_init_18 rfl (lv_at hl 0 rfl) ?_
  refine lv_iconst (v := 4) hx hb d_Planner_init_19 (by decide) ?_
  refine va_newa (atype := .int) (a0 := (4, .inl (fun _ => 0))) (N' := 4) hx hb (hwg _ kw_39) (ty := .int) rfl hK hP hD hS hA (va_zero_int _) (by decide) rfl (by decide) (Nat.le_of_ble_eq_true rfl) (Nat.le_of_ble_eq_true rfl) d_Planner_init_20 (fun q20 cA H20 hK9 hP hD hS => ?_)
  obtain rfl : cI = cA := va_same_int hK hK9
  have hP : va_P (dC, dI) vwCl [(aL, .inr (6, [.ref q6, .ref q13, .null, .null, .int 0])), (q6, .inl (cI, 4, .inl (fun _ => 0))), (q13, .inl (cI, 4, .inl (fun _ => 0))), (q20, .inl (cI, 4, .inl (fun _ => 0)))] H20 := hP
  have hD : va_D A [(aL, .inr (6, [.ref q6, .ref q13, .null, .null, .int 0])), (q6, .inl (cI, 4, .inl (fun _ => 0))), (q13, .inl (cI, 4, .inl (fun _ => 0))), (q20, .inl (cI, 4, .inl (fun _ => 0)))] := hD
  refine va_putF (D := (dC, dI)) (ci := 6) (v := .ref q20) (ty := (.array .int)) (C := R_Planner) (T := F_Planner) (N := 5) hx hb hwg iu_Planner t_Planner t_Planner_ok n_Planner hown hK hP hD hS 0 rfl rfl 2 (by decide) (hwg _ kw_89) (fun _ h9 => h9) rfl hin rfl (by decide +kernel) rfl rfl (Nat.le_of_ble_eq_true rfl) d_Planner_init_22 (fun H22 locs hP hD hS => ?_)
  have hP : va_P (dC, dI) vwCl [(aL, .inr (6, [.ref q6, .ref q13, .ref q20, .null, .int 0])), (q6, .inl (cI, 4, .inl (fun _ => 0))), (q13, .inl (cI, 4, .inl (fun _ => 0))), (q20, .inl (cI, 4, .inl (fun _ => 0)))] H22 := hP
  have hD : va_D A [(aL, .inr (6, [.ref q6, .ref q13, .ref q20, .null, .int 0])), (q6, .inl (cI, 4, .inl (fun _ => 0))), (q13, .inl (cI, 4, .inl (fun _ => 0))), (q20, .inl (cI, 4, .inl (fun _ => 0)))] := hD
  refine lv_aload_n hx hb d_Planner_init_25 rfl (lv_at hl 0 rfl) ?_
  refine lv_iconst (v := 4) hx hb d_Planner_init_26 (by decide) ?_
  refine va_newa (atype := .int) (a0 := (4, .inl (fun _ => 0))) (N' := 4) hx hb (hwg _ kw_39) (ty := .int) rfl hK hP hD hS hA (va_zero_int _) (by decide) rfl (by decide) (Nat.le_of_ble_eq_true rfl) (Nat.le_of_ble_eq_true rfl) d_Planner_init_27 (fun q27 cA H27 hK9 hP hD hS => ?_)
  obtain rfl : cI = cA := va_same_int hK hK9
  have hP : va_P (dC, dI) vwCl [(aL, .inr (6, [.ref q6, .ref q13, .ref q20, .null, .int 0])), (q6, .inl (cI, 4, .inl (fun _ => 0))), (q13, .inl (cI, 4, .inl (fun _ => 0))), (q20, .inl (cI, 4, .inl (fun _ => 0))), (q27, .inl (cI, 4, .inl (fun _ => 0)))] H27 := hP
  have hD : va_D A [(aL, .inr (6, [.ref q6, .ref q13, .ref q20, .null, .int 0])), (q6, .inl (cI, 4, .inl (fun _ => 0))), (q13, .inl (cI, 4, .inl (fun _ => 0))), (q20, .inl (cI, 4, .inl (fun _ => 0))), (q27, .inl (cI, 4, .inl (fun _ => 0)))] := hD
  refine va_putF (D := (dC, dI)) (ci := 6) (v := .ref q27) (ty := (.array .int)) (C := R_Planner) (T := F_Planner) (N := 5) hx hb hwg iu_Planner t_Planner t_Planner_ok n_Planner hown hK hP hD hS 0 rfl rfl 3 (by decide) (hwg _ kw_90) (fun _ h9 => h9) rfl hin rfl (by decide +kernel) rfl rfl (Nat.le_of_ble_eq_true rfl) d_Planner_init_29 (fun H29 locs hP hD hS => ?_)
  have hP : va_P (dC, dI) vwCl [(aL, .inr (6, [.ref q6, .ref q13, .ref q20, .ref q27, .int 0])), (q6, .inl (cI, 4, .inl (fun _ => 0))), (q13, .inl (cI, 4, .inl (fun _ => 0))), (q20, .inl (cI, 4, .inl (fun _ => 0))), (q27, .inl (cI, 4, .inl (fun _ => 0)))] H29 := hP
  have hD : va_D A [(aL, .inr (6, [.ref q6, .ref q13, .ref q20, .ref q27, .int 0])), (q6, .inl (cI, 4, .inl (fun _ => 0))), (q13, .inl (cI, 4, .inl (fun _ => 0))), (q20, .inl (cI, 4, .inl (fun _ => 0))), (q27, .inl (cI, 4, .inl (fun _ => 0)))] := hD
  have hP9 := hP.sub (ws' := [(aL, .inr (6, [.ref q6, .ref q13, .ref q20, .ref q27, .int 0])), (q6, .inl (cI, 4, .inl (fun _ => 0))), (q13, .inl (cI, 4, .inl (fun _ => 0))), (q20, .inl (cI, 4, .inl (fun _ => 0))), (q27, .inl (cI, 4, .inl (fun _ => 0)))]) [0, 1, 2, 3, 4] rfl
  have hD9 := hD.sub (ws' := [(aL, .inr (6, [.ref q6, .ref q13, .ref q20, .ref q27, .int 0])), (q6, .inl (cI, 4, .inl (fun _ => 0))), (q13, .inl (cI, 4, .inl (fun _ => 0))), (q20, .inl (cI, 4, .inl (fun _ => 0))), (q27, .inl (cI, 4, .inl (fun _ => 0)))]) [0, 1, 2, 3, 4] (by decide) rfl
  refine W.widen (k := 4) (n := 16) (by decide) (by decide) ?_
  exact W.vret hx hb hr (fun t ht hW => ⟨⟨(q6, q13, q20, q27), rfl, trivial, by rw [ht]; exact hP9, hD9⟩, hS.F ht⟩) hS.2.2 d_Planner_init_32
abbrev rm_DR_init : Room := { frames := 2, cells := 21, slots := 231, locals := 32 }
set_option maxHeartbeats 4000000 in
set_option maxRecDepth 100000 in
theorem c_DR_init (l : Launch) (dC : Nat → ClassId) (dI : Nat → Nat → Nat) (cI cL cZ : ClassId) (x0 : Nat) (sz : Nat) : Met l y_DR_init w_DR_init rm_DR_init (va_Pc [.ref x0] (c_pre dC dI cI cL cZ [(x0, .inr (0, [.null, .null, .null, .null, .null, .null, .int 0]))] sz)) (va_Qv (fun (_ : Nat × Nat × Nat × Nat × Nat × Nat × Nat × Nat × Nat × Nat × Nat × Nat × Nat × Nat × Nat × Nat × Nat × Nat × Nat × Nat × Nat) => True) (c_post dC dI (fun (u : Nat × Nat × Nat × Nat × Nat × Nat × Nat × Nat × Nat × Nat × Nat × Nat × Nat × Nat × Nat × Nat × Nat × Nat × Nat × Nat × Nat) => [(x0, .inr (0, [.ref u.1, .ref u.2.1, .ref u.2.2.1, .ref u.2.2.2.1, .ref u.2.2.2.2.1, .ref u.2.2.2.2.2.1, .int 0])), (u.1, .inr (1, [.ref u.2.2.2.2.2.2.1])), (u.2.1, .inr (2, [.ref u.2.2.2.2.2.2.2.1, .ref u.2.2.2.2.2.2.2.2.1, .ref u.2.2.2.2.2.2.2.2.2.1, .int 0])), (u.2.2.1, .inr (3, [.ref u.2.2.2.2.2.2.2.2.2.2.1, .ref u.2.2.2.2.2.2.2.2.2.2.2.1, .int 1000000000, .long 0, .long 0])), (u.2.2.2.1, .inr (4, [.ref u.2.2.2.2.2.2.2.2.2.2.2.2.1, .ref u.2.2.2.2.2.2.2.2.2.2.2.2.2.1, .ref u.2.2.2.2.2.2.2.2.2.2.2.2.2.2.1, .ref u.2.2.2.2.2.2.2.2.2.2.2.2.2.2.2.1, .int 0, .int 0, .long 0, .long 0, .long 0])), (u.2.2.2.2.1, .inr (5, [.ref u.2.2.2.2.2.2.2.2.2.2.2.2.2.2.2.2.1, .int 0])), (u.2.2.2.2.2.1, .inr (6, [.ref u.2.2.2.2.2.2.2.2.2.2.2.2.2.2.2.2.2.1, .ref u.2.2.2.2.2.2.2.2.2.2.2.2.2.2.2.2.2.2.1, .ref u.2.2.2.2.2.2.2.2.2.2.2.2.2.2.2.2.2.2.2.1, .ref u.2.2.2.2.2.2.2.2.2.2.2.2.2.2.2.2.2.2.2.2, .int 0])), (u.2.2.2.2.2.2.1, .inl (cI, 12, .inl (fun _ => 0))), (u.2.2.2.2.2.2.2.1, .inl (cI, 30, .inl (fun _ => 0))), (u.2.2.2.2.2.2.2.2.1, .inl (cI, 30, .inl (fun _ => 0))), (u.2.2.2.2.2.2.2.2.2.1, .inl (cI, 30, .inl (fun _ => 0))), (u.2.2.2.2.2.2.2.2.2.2.1, .inl (cL, 4, .inr (.inl (fun _ => 0)))), (u.2.2.2.2.2.2.2.2.2.2.2.1, .inl (cI, 3, .inl (fun _ => 0))), (u.2.2.2.2.2.2.2.2.2.2.2.2.1, .inl (cI, 4, .inl (fun _ => 0))), (u.2.2.2.2.2.2.2.2.2.2.2.2.2.1, .inl (cI, 4, .inl (fun _ => 0))), (u.2.2.2.2.2.2.2.2.2.2.2.2.2.2.1, .inl (cL, 4, .inr (.inl (fun _ => 0)))), (u.2.2.2.2.2.2.2.2.2.2.2.2.2.2.2.1, .inl (cI, 4, .inl (fun _ => 0))), (u.2.2.2.2.2.2.2.2.2.2.2.2.2.2.2.2.1, .inl (cL, 64, .inr (.inl (fun _ => 0)))), (u.2.2.2.2.2.2.2.2.2.2.2.2.2.2.2.2.2.1, .inl (cI, 4, .inl (fun _ => 0))), (u.2.2.2.2.2.2.2.2.2.2.2.2.2.2.2.2.2.2.1, .inl (cI, 4, .inl (fun _ => 0))), (u.2.2.2.2.2.2.2.2.2.2.2.2.2.2.2.2.2.2.2.1, .inl (cI, 4, .inl (fun _ => 0))), (u.2.2.2.2.2.2.2.2.2.2.2.2.2.2.2.2.2.2.2.2, .inl (cI, 4, .inl (fun _ => 0)))]) (va_A [(x0, .inr (0, [.null, .null, .null, .null, .null, .null, .int 0]))] sz)) (va_A [(x0, .inr (0, [.null, .null, .null, .null, .null, .null, .int 0]))] sz)) 21 231 (va_A [(x0, .inr (0, [.null, .null, .null, .null, .null, .null, .int 0]))] sz) := by
  refine Met.ofW (cc := b_DR_init) (maxL := 1) (ret := none) (by decide) rfl ?_
  intro p e s m args below meth c s₁ B hml hv
  obtain ⟨rfl, hsz, hP, hK, hN, hD0⟩ := hv
  have hx := B.exec
  have hb := B.bytes
  have hr := B.returns
  have hts := atoms_spec (ws := w_DR_init) B.pre
  have hown : s.vm.findClass R_DR = some m.cls := findClass_of_methodNamed B.named
  have hlocks := B.notSynchronized
  have hwg : ∀ w ∈ wg, w.before ([.ref x0] : List Value).toArray s = true := fun w h => hts w (List.mem_cons_of_mem _ h)
  have hin : meth.name = "<init>" := (name_of_methodNamed B.named B.method).1
  subst hsz
  have hD := hD0.self (sz := s.heap.size)
  generalize hAe : va_A [(x0, .inr (0, [.null, .null, .null, .null, .null, .null, .int 0]))] s.heap.size = A at hD ⊢
  have hA : ∀ q : Nat, s.heap.size ≤ q → A q := fun q h => by rw [← hAe]; exact Or.inr h
  have hS : va_S A s.heap s.heap [] := va_S.rf
  have hP : va_P (dC, dI) vwCl [(x0, .inr (0, [.null, .null, .null, .null, .null, .null, .int 0]))] s.heap := hP
  have hl := lv_entry ([.ref x0]) (n := 1) (Nat.le_of_ble_eq_true rfl)
  rw [lg_entry_eq]
  generalize (lg_sl ([.ref x0]) ++ List.replicate (1 - (lg_sl ([.ref x0])).length) Slot.unset).toArray = ls at hl ⊢
  have hl : lv_has ls 1 [(0, .ref x0)] := hl
  refine lv_aload_n hx hb d_DR_init_0 rfl (lv_at hl 0 rfl) ?_
  refine W.objInit hx hb hown (hwg _ kw_30) (hwg _ kw_31) (hwg _ kw_32) rfl (by rw [hml]; exact hl.1) rfl d_DR_init_1 (Nat.le_of_ble_eq_true rfl) (Nat.le_of_ble_eq_true rfl) ?_
  refine W.eq (g2 := F0 m 4 ls []) rfl ?_
  refine lv_aload_n hx hb d_DR_init_4 rfl (lv_at hl 0 rfl) ?_
  refine va_new (ci := 1) (fs := [.null]) (C := R_Shares) (T := F_Shares) (N := 1) hx hb hwg iu_Shares t_Shares t_Shares_ok hown (hwg _ kw_33) (hwg _ kw_34) (hwg _ kw_15) hK hP hD hS hA rfl (fun j hj => by rcases (show j = 0 by omega) with rfl <;> rfl) (Nat.le_of_ble_eq_true rfl) (Nat.le_of_ble_eq_true rfl) d_DR_init_5 (fun q5 H5 hP hD hS => ?_)
  have hP : va_P (dC, dI) vwCl [(x0, .inr (0, [.null, .null, .null, .null, .null, .null, .int 0])), (q5, .inr (1, [.null]))] H5 := hP
  have hD : va_D A [(x0, .inr (0, [.null, .null, .null, .null, .null, .null, .int 0])), (q5, .inr (1, [.null]))] := hD
  refine lv_dup hx hb d_DR_init_8 rfl ?_
  have hPc := hP.sub (ws' := [(q5, .inr (1, [.null]))]) [1] rfl
  have hDc := hD.sub (ws' := [(q5, .inr (1, [.null]))]) [1] (by decide) rfl
  refine k_callv hP hD hS hA [1] [0] (wc := [(q5, .inr (1, [.null]))]) (wr := [(x0, .inr (0, [.null, .null, .null, .null, .null, .null, .int 0]))]) rfl rfl (by decide) (by decide) (va_runIN (As := []) (rest := [.ref q5, .ref x0]) ⟨hx, hb, hml, hown, hwg⟩ (c_Shares_init l dC dI cI cL cZ q5 H5.size) ⟨va_cnB 0 hwg (g_I kw_36) rfl rfl rfl (hN _ nk_0) (hwg _ kw_15) (by decide +kernel) ⟨Nat.le_of_ble_eq_true rfl, Nat.le_of_ble_eq_true rfl⟩, rfl, hwg _ kw_35⟩ ⟨c_pre_call, c_pre_mk hPc hDc hK hN _⟩ rfl rfl hl.1 rfl (lv_room (Nat.le_of_ble_eq_true rfl)) d_DR_init_9 ⟨Nat.le_of_ble_eq_true rfl, Nat.le_of_ble_eq_true rfl⟩) (fun u H9 locs w9 hz1 hP hD hS => ?_)
  obtain ⟨bS_9, rfl⟩ : ∃ z, z = u := ⟨_, rfl⟩
  have hP := hP.sub (ws' := [(x0, .inr (0, [.null, .null, .null, .null, .null, .null, .int 0])), (q5, .inr (1, [.ref bS_9])), (bS_9, .inl (cI, 12, .inl (fun _ => 0)))]) [0, 1, 2] rfl
  have hD := hD.sub (ws' := [(x0, .inr (0, [.null, .null, .null, .null, .null, .null, .int 0])), (q5, .inr (1, [.ref bS_9])), (bS_9, .inl (cI, 12, .inl (fun _ => 0)))]) [0, 1, 2] (by decide) rfl
  refine va_putF (D := (dC, dI)) (ci := 0) (v := .ref q5) (ty := (.object "DigesterRates$Shares")) (C := R_DR) (T := F_DR) (N := 7) hx hb hwg iu_DR t_DR t_DR_ok n_DR hown hK hP hD hS 0 rfl rfl 0 (by decide) (hwg _ kw_92) (fun _ h9 => h9) rfl hin rfl (by decide +kernel) rfl rfl (Nat.le_of_ble_eq_true rfl) d_DR_init_12 (fun H12 locs hP hD hS => ?_)
  have hP : va_P (dC, dI) vwCl [(x0, .inr (0, [.ref q5, .null, .null, .null, .null, .null, .int 0])), (q5, .inr (1, [.ref bS_9])), (bS_9, .inl (cI, 12, .inl (fun _ => 0)))] H12 := hP
  have hD : va_D A [(x0, .inr (0, [.ref q5, .null, .null, .null, .null, .null, .int 0])), (q5, .inr (1, [.ref bS_9])), (bS_9, .inl (cI, 12, .inl (fun _ => 0)))] := hD
  refine lv_aload_n hx hb d_DR_init_15 rfl (lv_at hl 0 rfl) ?_
  refine va_new (ci := 2) (fs := [.null, .null, .null, .int 0]) (C := R_Told) (T := F_Told) (N := 4) hx hb hwg iu_Told t_Told t_Told_ok hown (hwg _ kw_40) (hwg _ kw_41) (hwg _ kw_16) hK hP hD hS hA rfl (fun j hj => by rcases (show j = 0 ∨ j = 1 ∨ j = 2 ∨ j = 3 by omega) with rfl | rfl | rfl | rfl <;> rfl) (Nat.le_of_ble_eq_true rfl) (Nat.le_of_ble_eq_true rfl) d_DR_init_16 (fun q16 H16 hP hD hS => ?_)
  have hP : va_P (dC, dI) vwCl [(x0, .inr (0, [.ref q5, .null, .null, .null, .null, .null, .int 0])), (q5, .inr (1, [.ref bS_9])), (bS_9, .inl (cI, 12, .inl (fun _ => 0))), (q16, .inr (2, [.null, .null, .null, .int 0]))] H16 := hP
  have hD : va_D A [(x0, .inr (0, [.ref q5, .null, .null, .null, .null, .null, .int 0])), (q5, .inr (1, [.ref bS_9])), (bS_9, .inl (cI, 12, .inl (fun _ => 0))), (q16, .inr (2, [.null, .null, .null, .int 0]))] := hD
  refine lv_dup hx hb d_DR_init_19 rfl ?_
  have hPc := hP.sub (ws' := [(q16, .inr (2, [.null, .null, .null, .int 0]))]) [3] rfl
  have hDc := hD.sub (ws' := [(q16, .inr (2, [.null, .null, .null, .int 0]))]) [3] (by decide) rfl
  refine k_callv hP hD hS hA [3] [0, 1, 2] (wc := [(q16, .inr (2, [.null, .null, .null, .int 0]))]) (wr := [(x0, .inr (0, [.ref q5, .null, .null, .null, .null, .null, .int 0])), (q5, .inr (1, [.ref bS_9])), (bS_9, .inl (cI, 12, .inl (fun _ => 0)))]) rfl rfl (by decide) (by decide) (va_runIN (As := []) (rest := [.ref q16, .ref x0]) ⟨hx, hb, hml, hown, hwg⟩ (c_Told_init l dC dI cI cL cZ q16 H16.size) ⟨va_cnB 0 hwg (g_I kw_43) rfl rfl rfl (hN _ nk_1) (hwg _ kw_16) (by decide +kernel) ⟨Nat.le_of_ble_eq_true rfl, Nat.le_of_ble_eq_true rfl⟩, rfl, hwg _ kw_42⟩ ⟨c_pre_call, c_pre_mk hPc hDc hK hN _⟩ rfl rfl hl.1 rfl (lv_room (Nat.le_of_ble_eq_true rfl)) d_DR_init_20 ⟨Nat.le_of_ble_eq_true rfl, Nat.le_of_ble_eq_true rfl⟩) (fun u H20 locs w20 hz1 hP hD hS => ?_)
  obtain ⟨bT1_20, bT2_20, bT3_20⟩ := u
  have hP := hP.sub (ws' := [(x0, .inr (0, [.ref q5, .null, .null, .null, .null, .null, .int 0])), (q5, .inr (1, [.ref bS_9])), (bS_9, .inl (cI, 12, .inl (fun _ => 0))), (q16, .inr (2, [.ref bT1_20, .ref bT2_20, .ref bT3_20, .int 0])), (bT1_20, .inl (cI, 30, .inl (fun _ => 0))), (bT2_20, .inl (cI, 30, .inl (fun _ => 0))), (bT3_20, .inl (cI, 30, .inl (fun _ => 0)))]) [0, 1, 2, 3, 4, 5, 6] rfl
  have hD := hD.sub (ws' := [(x0, .inr (0, [.ref q5, .null, .null, .null, .null, .null, .int 0])), (q5, .inr (1, [.ref bS_9])), (bS_9, .inl (cI, 12, .inl (fun _ => 0))), (q16, .inr (2, [.ref bT1_20, .ref bT2_20, .ref bT3_20, .int 0])), (bT1_20, .inl (cI, 30, .inl (fun _ => 0))), (bT2_20, .inl (cI, 30, .inl (fun _ => 0))), (bT3_20, .inl (cI, 30, .inl (fun _ => 0)))]) [0, 1, 2, 3, 4, 5, 6] (by decide) rfl
  refine va_putF (D := (dC, dI)) (ci := 0) (v := .ref q16) (ty := (.object "DigesterRates$Told")) (C := R_DR) (T := F_DR) (N := 7) hx hb hwg iu_DR t_DR t_DR_ok n_DR hown hK hP hD hS 0 rfl rfl 1 (by decide) (hwg _ kw_93) (fun _ h9 => h9) rfl hin rfl (by decide +kernel) rfl rfl (Nat.le_of_ble_eq_true rfl) d_DR_init_23 (fun H23 locs hP hD hS => ?_)
  have hP : va_P (dC, dI) vwCl [(x0, .inr (0, [.ref q5, .ref q16, .null, .null, .null, .null, .int 0])), (q5, .inr (1, [.ref bS_9])), (bS_9, .inl (cI, 12, .inl (fun _ => 0))), (q16, .inr (2, [.ref bT1_20, .ref bT2_20, .ref bT3_20, .int 0])), (bT1_20, .inl (cI, 30, .inl (fun _ => 0))), (bT2_20, .inl (cI, 30, .inl (fun _ => 0))), (bT3_20, .inl (cI, 30, .inl (fun _ => 0)))] H23 := hP
  have hD : va_D A [(x0, .inr (0, [.ref q5, .ref q16, .null, .null, .null, .null, .int 0])), (q5, .inr (1, [.ref bS_9])), (bS_9, .inl (cI, 12, .inl (fun _ => 0))), (q16, .inr (2, [.ref bT1_20, .ref bT2_20, .ref bT3_20, .int 0])), (bT1_20, .inl (cI, 30, .inl (fun _ => 0))), (bT2_20, .inl (cI, 30, .inl (fun _ => 0))), (bT3_20, .inl (cI, 30, .inl (fun _ => 0)))] := hD
  refine lv_aload_n hx hb d_DR_init_26 rfl (lv_at hl 0 rfl) ?_
  refine va_new (ci := 3) (fs := [.null, .null, .int 0, .long 0, .long 0]) (C := R_Tank) (T := F_Tank) (N := 5) hx hb hwg iu_Tank t_Tank t_Tank_ok hown (hwg _ kw_49) (hwg _ kw_50) (hwg _ kw_17) hK hP hD hS hA rfl (fun j hj => by rcases (show j = 0 ∨ j = 1 ∨ j = 2 ∨ j = 3 ∨ j = 4 by omega) with rfl | rfl | rfl | rfl | rfl <;> rfl) (Nat.le_of_ble_eq_true rfl) (Nat.le_of_ble_eq_true rfl) d_DR_init_27 (fun q27 H27 hP hD hS => ?_)
  have hP : va_P (dC, dI) vwCl [(x0, .inr (0, [.ref q5, .ref q16, .null, .null, .null, .null, .int 0])), (q5, .inr (1, [.ref bS_9])), (bS_9, .inl (cI, 12, .inl (fun _ => 0))), (q16, .inr (2, [.ref bT1_20, .ref bT2_20, .ref bT3_20, .int 0])), (bT1_20, .inl (cI, 30, .inl (fun _ => 0))), (bT2_20, .inl (cI, 30, .inl (fun _ => 0))), (bT3_20, .inl (cI, 30, .inl (fun _ => 0))), (q27, .inr (3, [.null, .null, .int 0, .long 0, .long 0]))] H27 := hP
  have hD : va_D A [(x0, .inr (0, [.ref q5, .ref q16, .null, .null, .null, .null, .int 0])), (q5, .inr (1, [.ref bS_9])), (bS_9, .inl (cI, 12, .inl (fun _ => 0))), (q16, .inr (2, [.ref bT1_20, .ref bT2_20, .ref bT3_20, .int 0])), (bT1_20, .inl (cI, 30, .inl (fun _ => 0))), (bT2_20, .inl (cI, 30, .inl (fun _ => 0))), (bT3_20, .inl (cI, 30, .inl (fun _ => 0))), (q27, .inr (3, [.null, .null, .int 0, .long 0, .long 0]))] := hD
  refine lv_dup hx hb d_DR_init_30 rfl ?_
  have hPc := hP.sub (ws' := [(q27, .inr (3, [.null, .null, .int 0, .long 0, .long 0]))]) [7] rfl
  have hDc := hD.sub (ws' := [(q27, .inr (3, [.null, .null, .int 0, .long 0, .long 0]))]) [7] (by decide) rfl
  refine k_callv hP hD hS hA [7] [0, 1, 2, 3, 4, 5, 6] (wc := [(q27, .inr (3, [.null, .null, .int 0, .long 0, .long 0]))]) (wr := [(x0, .inr (0, [.ref q5, .ref q16, .null, .null, .null, .null, .int 0])), (q5, .inr (1, [.ref bS_9])), (bS_9, .inl (cI, 12, .inl (fun _ => 0))), (q16, .inr (2, [.ref bT1_20, .ref bT2_20, .ref bT3_20, .int 0])), (bT1_20, .inl (cI, 30, .inl (fun _ => 0))), (bT2_20, .inl (cI, 30, .inl (fun _ => 0))), (bT3_20, .inl (cI, 30, .inl (fun _ => 0)))]) rfl rfl (by decide) (by decide) (va_runIN (As := []) (rest := [.ref q27, .ref x0]) ⟨hx, hb, hml, hown, hwg⟩ (c_Tank_init l dC dI cI cL cZ q27 H27.size) ⟨va_cnB 0 hwg (g_I kw_52) rfl rfl rfl (hN _ nk_6) (hwg _ kw_17) (by decide +kernel) ⟨Nat.le_of_ble_eq_true rfl, Nat.le_of_ble_eq_true rfl⟩, rfl, hwg _ kw_51⟩ ⟨c_pre_call, c_pre_mk hPc hDc hK hN _⟩ rfl rfl hl.1 rfl (lv_room (Nat.le_of_ble_eq_true rfl)) d_DR_init_31 ⟨Nat.le_of_ble_eq_true rfl, Nat.le_of_ble_eq_true rfl⟩) (fun u H31 locs w31 hz1 hP hD hS => ?_)
  obtain ⟨bK1_31, bK2_31⟩ := u
  have hP := hP.sub (ws' := [(x0, .inr (0, [.ref q5, .ref q16, .null, .null, .null, .null, .int 0])), (q5, .inr (1, [.ref bS_9])), (bS_9, .inl (cI, 12, .inl (fun _ => 0))), (q16, .inr (2, [.ref bT1_20, .ref bT2_20, .ref bT3_20, .int 0])), (bT1_20, .inl (cI, 30, .inl (fun _ => 0))), (bT2_20, .inl (cI, 30, .inl (fun _ => 0))), (bT3_20, .inl (cI, 30, .inl (fun _ => 0))), (q27, .inr (3, [.ref bK1_31, .ref bK2_31, .int 1000000000, .long 0, .long 0])), (bK1_31, .inl (cL, 4, .inr (.inl (fun _ => 0)))), (bK2_31, .inl (cI, 3, .inl (fun _ => 0)))]) [0, 1, 2, 3, 4, 5, 6, 7, 8, 9] rfl
  have hD := hD.sub (ws' := [(x0, .inr (0, [.ref q5, .ref q16, .null, .null, .null, .null, .int 0])), (q5, .inr (1, [.ref bS_9])), (bS_9, .inl (cI, 12, .inl (fun _ => 0))), (q16, .inr (2, [.ref bT1_20, .ref bT2_20, .ref bT3_20, .int 0])), (bT1_20, .inl (cI, 30, .inl (fun _ => 0))), (bT2_20, .inl (cI, 30, .inl (fun _ => 0))), (bT3_20, .inl (cI, 30, .inl (fun _ => 0))), (q27, .inr (3, [.ref bK1_31, .ref bK2_31, .int 1000000000, .long 0, .long 0])), (bK1_31, .inl (cL, 4, .inr (.inl (fun _ => 0)))), (bK2_31, .inl (cI, 3, .inl (fun _ => 0)))]) [0, 1, 2, 3, 4, 5, 6, 7, 8, 9] (by decide) rfl
  refine va_putF (D := (dC, dI)) (ci := 0) (v := .ref q27) (ty := (.object "DigesterRates$Tank")) (C := R_DR) (T := F_DR) (N := 7) hx hb hwg iu_DR t_DR t_DR_ok n_DR hown hK hP hD hS 0 rfl rfl 2 (by decide) (hwg _ kw_94) (fun _ h9 => h9) rfl hin rfl (by decide +kernel) rfl rfl (Nat.le_of_ble_eq_true rfl) d_DR_init_34 (fun H34 locs hP hD hS => ?_)
  have hP : va_P (dC, dI) vwCl [(x0, .inr (0, [.ref q5, .ref q16, .ref q27, .null, .null, .null, .int 0])), (q5, .inr (1, [.ref bS_9])), (bS_9, .inl (cI, 12, .inl (fun _ => 0))), (q16, .inr (2, [.ref bT1_20, .ref bT2_20, .ref bT3_20, .int 0])), (bT1_20, .inl (cI, 30, .inl (fun _ => 0))), (bT2_20, .inl (cI, 30, .inl (fun _ => 0))), (bT3_20, .inl (cI, 30, .inl (fun _ => 0))), (q27, .inr (3, [.ref bK1_31, .ref bK2_31, .int 1000000000, .long 0, .long 0])), (bK1_31, .inl (cL, 4, .inr (.inl (fun _ => 0)))), (bK2_31, .inl (cI, 3, .inl (fun _ => 0)))] H34 := hP
  have hD : va_D A [(x0, .inr (0, [.ref q5, .ref q16, .ref q27, .null, .null, .null, .int 0])), (q5, .inr (1, [.ref bS_9])), (bS_9, .inl (cI, 12, .inl (fun _ => 0))), (q16, .inr (2, [.ref bT1_20, .ref bT2_20, .ref bT3_20, .int 0])), (bT1_20, .inl (cI, 30, .inl (fun _ => 0))), (bT2_20, .inl (cI, 30, .inl (fun _ => 0))), (bT3_20, .inl (cI, 30, .inl (fun _ => 0))), (q27, .inr (3, [.ref bK1_31, .ref bK2_31, .int 1000000000, .long 0, .long 0])), (bK1_31, .inl (cL, 4, .inr (.inl (fun _ => 0)))), (bK2_31, .inl (cI, 3, .inl (fun _ => 0)))] := hD
  refine lv_aload_n hx hb d_DR_init_37 rfl (lv_at hl 0 rfl) ?_
  refine va_new (ci := 4) (fs := [.null, .null, .null, .null, .int 0, .int 0, .long 0, .long 0, .long 0]) (C := R_GasStore) (T := F_GasStore) (N := 9) hx hb hwg iu_GasStore t_GasStore t_GasStore_ok hown (hwg _ kw_61) (hwg _ kw_62) (hwg _ kw_18) hK hP hD hS hA rfl (fun j hj => by rcases (show j = 0 ∨ j = 1 ∨ j = 2 ∨ j = 3 ∨ j = 4 ∨ j = 5 ∨ j = 6 ∨ j = 7 ∨ j = 8 by omega) with rfl | rfl | rfl | rfl | rfl | rfl | rfl | rfl | rfl <;> rfl) (Nat.le_of_ble_eq_true rfl) (Nat.le_of_ble_eq_true rfl) d_DR_init_38 (fun q38 H38 hP hD hS => ?_)
  have hP : va_P (dC, dI) vwCl [(x0, .inr (0, [.ref q5, .ref q16, .ref q27, .null, .null, .null, .int 0])), (q5, .inr (1, [.ref bS_9])), (bS_9, .inl (cI, 12, .inl (fun _ => 0))), (q16, .inr (2, [.ref bT1_20, .ref bT2_20, .ref bT3_20, .int 0])), (bT1_20, .inl (cI, 30, .inl (fun _ => 0))), (bT2_20, .inl (cI, 30, .inl (fun _ => 0))), (bT3_20, .inl (cI, 30, .inl (fun _ => 0))), (q27, .inr (3, [.ref bK1_31, .ref bK2_31, .int 1000000000, .long 0, .long 0])), (bK1_31, .inl (cL, 4, .inr (.inl (fun _ => 0)))), (bK2_31, .inl (cI, 3, .inl (fun _ => 0))), (q38, .inr (4, [.null, .null, .null, .null, .int 0, .int 0, .long 0, .long 0, .long 0]))] H38 := hP
  have hD : va_D A [(x0, .inr (0, [.ref q5, .ref q16, .ref q27, .null, .null, .null, .int 0])), (q5, .inr (1, [.ref bS_9])), (bS_9, .inl (cI, 12, .inl (fun _ => 0))), (q16, .inr (2, [.ref bT1_20, .ref bT2_20, .ref bT3_20, .int 0])), (bT1_20, .inl (cI, 30, .inl (fun _ => 0))), (bT2_20, .inl (cI, 30, .inl (fun _ => 0))), (bT3_20, .inl (cI, 30, .inl (fun _ => 0))), (q27, .inr (3, [.ref bK1_31, .ref bK2_31, .int 1000000000, .long 0, .long 0])), (bK1_31, .inl (cL, 4, .inr (.inl (fun _ => 0)))), (bK2_31, .inl (cI, 3, .inl (fun _ => 0))), (q38, .inr (4, [.null, .null, .null, .null, .int 0, .int 0, .long 0, .long 0, .long 0]))] := hD
  refine lv_dup hx hb d_DR_init_41 rfl ?_
  have hPc := hP.sub (ws' := [(q38, .inr (4, [.null, .null, .null, .null, .int 0, .int 0, .long 0, .long 0, .long 0]))]) [10] rfl
  have hDc := hD.sub (ws' := [(q38, .inr (4, [.null, .null, .null, .null, .int 0, .int 0, .long 0, .long 0, .long 0]))]) [10] (by decide) rfl
  refine k_callv hP hD hS hA [10] [0, 1, 2, 3, 4, 5, 6, 7, 8, 9] (wc := [(q38, .inr (4, [.null, .null, .null, .null, .int 0, .int 0, .long 0, .long 0, .long 0]))]) (wr := [(x0, .inr (0, [.ref q5, .ref q16, .ref q27, .null, .null, .null, .int 0])), (q5, .inr (1, [.ref bS_9])), (bS_9, .inl (cI, 12, .inl (fun _ => 0))), (q16, .inr (2, [.ref bT1_20, .ref bT2_20, .ref bT3_20, .int 0])), (bT1_20, .inl (cI, 30, .inl (fun _ => 0))), (bT2_20, .inl (cI, 30, .inl (fun _ => 0))), (bT3_20, .inl (cI, 30, .inl (fun _ => 0))), (q27, .inr (3, [.ref bK1_31, .ref bK2_31, .int 1000000000, .long 0, .long 0])), (bK1_31, .inl (cL, 4, .inr (.inl (fun _ => 0)))), (bK2_31, .inl (cI, 3, .inl (fun _ => 0)))]) rfl rfl (by decide) (by decide) (va_runIN (As := []) (rest := [.ref q38, .ref x0]) ⟨hx, hb, hml, hown, hwg⟩ (c_GasStore_init l dC dI cI cL cZ q38 H38.size) ⟨va_cnB 0 hwg (g_I kw_64) rfl rfl rfl (hN _ nk_12) (hwg _ kw_18) (by decide +kernel) ⟨Nat.le_of_ble_eq_true rfl, Nat.le_of_ble_eq_true rfl⟩, rfl, hwg _ kw_63⟩ ⟨c_pre_call, c_pre_mk hPc hDc hK hN _⟩ rfl rfl hl.1 rfl (lv_room (Nat.le_of_ble_eq_true rfl)) d_DR_init_42 ⟨Nat.le_of_ble_eq_true rfl, Nat.le_of_ble_eq_true rfl⟩) (fun u H42 locs w42 hz1 hP hD hS => ?_)
  obtain ⟨bG1_42, bG2_42, bG3_42, bG4_42⟩ := u
  have hP := hP.sub (ws' := [(x0, .inr (0, [.ref q5, .ref q16, .ref q27, .null, .null, .null, .int 0])), (q5, .inr (1, [.ref bS_9])), (bS_9, .inl (cI, 12, .inl (fun _ => 0))), (q16, .inr (2, [.ref bT1_20, .ref bT2_20, .ref bT3_20, .int 0])), (bT1_20, .inl (cI, 30, .inl (fun _ => 0))), (bT2_20, .inl (cI, 30, .inl (fun _ => 0))), (bT3_20, .inl (cI, 30, .inl (fun _ => 0))), (q27, .inr (3, [.ref bK1_31, .ref bK2_31, .int 1000000000, .long 0, .long 0])), (bK1_31, .inl (cL, 4, .inr (.inl (fun _ => 0)))), (bK2_31, .inl (cI, 3, .inl (fun _ => 0))), (q38, .inr (4, [.ref bG1_42, .ref bG2_42, .ref bG3_42, .ref bG4_42, .int 0, .int 0, .long 0, .long 0, .long 0])), (bG1_42, .inl (cI, 4, .inl (fun _ => 0))), (bG2_42, .inl (cI, 4, .inl (fun _ => 0))), (bG3_42, .inl (cL, 4, .inr (.inl (fun _ => 0)))), (bG4_42, .inl (cI, 4, .inl (fun _ => 0)))]) [0, 1, 2, 3, 4, 5, 6, 7, 8, 9, 10, 11, 12, 13, 14] rfl
  have hD := hD.sub (ws' := [(x0, .inr (0, [.ref q5, .ref q16, .ref q27, .null, .null, .null, .int 0])), (q5, .inr (1, [.ref bS_9])), (bS_9, .inl (cI, 12, .inl (fun _ => 0))), (q16, .inr (2, [.ref bT1_20, .ref bT2_20, .ref bT3_20, .int 0])), (bT1_20, .inl (cI, 30, .inl (fun _ => 0))), (bT2_20, .inl (cI, 30, .inl (fun _ => 0))), (bT3_20, .inl (cI, 30, .inl (fun _ => 0))), (q27, .inr (3, [.ref bK1_31, .ref bK2_31, .int 1000000000, .long 0, .long 0])), (bK1_31, .inl (cL, 4, .inr (.inl (fun _ => 0)))), (bK2_31, .inl (cI, 3, .inl (fun _ => 0))), (q38, .inr (4, [.ref bG1_42, .ref bG2_42, .ref bG3_42, .ref bG4_42, .int 0, .int 0, .long 0, .long 0, .long 0])), (bG1_42, .inl (cI, 4, .inl (fun _ => 0))), (bG2_42, .inl (cI, 4, .inl (fun _ => 0))), (bG3_42, .inl (cL, 4, .inr (.inl (fun _ => 0)))), (bG4_42, .inl (cI, 4, .inl (fun _ => 0)))]) [0, 1, 2, 3, 4, 5, 6, 7, 8, 9, 10, 11, 12, 13, 14] (by decide) rfl
  refine va_putF (D := (dC, dI)) (ci := 0) (v := .ref q38) (ty := (.object "DigesterRates$GasStore")) (C := R_DR) (T := F_DR) (N := 7) hx hb hwg iu_DR t_DR t_DR_ok n_DR hown hK hP hD hS 0 rfl rfl 3 (by decide) (hwg _ kw_95) (fun _ h9 => h9) rfl hin rfl (by decide +kernel) rfl rfl (Nat.le_of_ble_eq_true rfl) d_DR_init_45 (fun H45 locs hP hD hS => ?_)
  have hP : va_P (dC, dI) vwCl [(x0, .inr (0, [.ref q5, .ref q16, .ref q27, .ref q38, .null, .null, .int 0])), (q5, .inr (1, [.ref bS_9])), (bS_9, .inl (cI, 12, .inl (fun _ => 0))), (q16, .inr (2, [.ref bT1_20, .ref bT2_20, .ref bT3_20, .int 0])), (bT1_20, .inl (cI, 30, .inl (fun _ => 0))), (bT2_20, .inl (cI, 30, .inl (fun _ => 0))), (bT3_20, .inl (cI, 30, .inl (fun _ => 0))), (q27, .inr (3, [.ref bK1_31, .ref bK2_31, .int 1000000000, .long 0, .long 0])), (bK1_31, .inl (cL, 4, .inr (.inl (fun _ => 0)))), (bK2_31, .inl (cI, 3, .inl (fun _ => 0))), (q38, .inr (4, [.ref bG1_42, .ref bG2_42, .ref bG3_42, .ref bG4_42, .int 0, .int 0, .long 0, .long 0, .long 0])), (bG1_42, .inl (cI, 4, .inl (fun _ => 0))), (bG2_42, .inl (cI, 4, .inl (fun _ => 0))), (bG3_42, .inl (cL, 4, .inr (.inl (fun _ => 0)))), (bG4_42, .inl (cI, 4, .inl (fun _ => 0)))] H45 := hP
  have hD : va_D A [(x0, .inr (0, [.ref q5, .ref q16, .ref q27, .ref q38, .null, .null, .int 0])), (q5, .inr (1, [.ref bS_9])), (bS_9, .inl (cI, 12, .inl (fun _ => 0))), (q16, .inr (2, [.ref bT1_20, .ref bT2_20, .ref bT3_20, .int 0])), (bT1_20, .inl (cI, 30, .inl (fun _ => 0))), (bT2_20, .inl (cI, 30, .inl (fun _ => 0))), (bT3_20, .inl (cI, 30, .inl (fun _ => 0))), (q27, .inr (3, [.ref bK1_31, .ref bK2_31, .int 1000000000, .long 0, .long 0])), (bK1_31, .inl (cL, 4, .inr (.inl (fun _ => 0)))), (bK2_31, .inl (cI, 3, .inl (fun _ => 0))), (q38, .inr (4, [.ref bG1_42, .ref bG2_42, .ref bG3_42, .ref bG4_42, .int 0, .int 0, .long 0, .long 0, .long 0])), (bG1_42, .inl (cI, 4, .inl (fun _ => 0))), (bG2_42, .inl (cI, 4, .inl (fun _ => 0))), (bG3_42, .inl (cL, 4, .inr (.inl (fun _ => 0)))), (bG4_42, .inl (cI, 4, .inl (fun _ => 0)))] := hD
  refine lv_aload_n hx hb d_DR_init_48 rfl (lv_at hl 0 rfl) ?_
  refine va_new (ci := 5) (fs := [.null, .int 0]) (C := R_AcidPeaks) (T := F_AcidPeaks) (N := 2) hx hb hwg iu_AcidPeaks t_AcidPeaks t_AcidPeaks_ok hown (hwg _ kw_75) (hwg _ kw_76) (hwg _ kw_19) hK hP hD hS hA rfl (fun j hj => by rcases (show j = 0 ∨ j = 1 by omega) with rfl | rfl <;> rfl) (Nat.le_of_ble_eq_true rfl) (Nat.le_of_ble_eq_true rfl) d_DR_init_49 (fun q49 H49 hP hD hS => ?_)
  have hP : va_P (dC, dI) vwCl [(x0, .inr (0, [.ref q5, .ref q16, .ref q27, .ref q38, .null, .null, .int 0])), (q5, .inr (1, [.ref bS_9])), (bS_9, .inl (cI, 12, .inl (fun _ => 0))), (q16, .inr (2, [.ref bT1_20, .ref bT2_20, .ref bT3_20, .int 0])), (bT1_20, .inl (cI, 30, .inl (fun _ => 0))), (bT2_20, .inl (cI, 30, .inl (fun _ => 0))), (bT3_20, .inl (cI, 30, .inl (fun _ => 0))), (q27, .inr (3, [.ref bK1_31, .ref bK2_31, .int 1000000000, .long 0, .long 0])), (bK1_31, .inl (cL, 4, .inr (.inl (fun _ => 0)))), (bK2_31, .inl (cI, 3, .inl (fun _ => 0))), (q38, .inr (4, [.ref bG1_42, .ref bG2_42, .ref bG3_42, .ref bG4_42, .int 0, .int 0, .long 0, .long 0, .long 0])), (bG1_42, .inl (cI, 4, .inl (fun _ => 0))), (bG2_42, .inl (cI, 4, .inl (fun _ => 0))), (bG3_42, .inl (cL, 4, .inr (.inl (fun _ => 0)))), (bG4_42, .inl (cI, 4, .inl (fun _ => 0))), (q49, .inr (5, [.null, .int 0]))] H49 := hP
  have hD : va_D A [(x0, .inr (0, [.ref q5, .ref q16, .ref q27, .ref q38, .null, .null, .int 0])), (q5, .inr (1, [.ref bS_9])), (bS_9, .inl (cI, 12, .inl (fun _ => 0))), (q16, .inr (2, [.ref bT1_20, .ref bT2_20, .ref bT3_20, .int 0])), (bT1_20, .inl (cI, 30, .inl (fun _ => 0))), (bT2_20, .inl (cI, 30, .inl (fun _ => 0))), (bT3_20, .inl (cI, 30, .inl (fun _ => 0))), (q27, .inr (3, [.ref bK1_31, .ref bK2_31, .int 1000000000, .long 0, .long 0])), (bK1_31, .inl (cL, 4, .inr (.inl (fun _ => 0)))), (bK2_31, .inl (cI, 3, .inl (fun _ => 0))), (q38, .inr (4, [.ref bG1_42, .ref bG2_42, .ref bG3_42, .ref bG4_42, .int 0, .int 0, .long 0, .long 0, .long 0])), (bG1_42, .inl (cI, 4, .inl (fun _ => 0))), (bG2_42, .inl (cI, 4, .inl (fun _ => 0))), (bG3_42, .inl (cL, 4, .inr (.inl (fun _ => 0)))), (bG4_42, .inl (cI, 4, .inl (fun _ => 0))), (q49, .inr (5, [.null, .int 0]))] := hD
  refine lv_dup hx hb d_DR_init_52 rfl ?_
  have hPc := hP.sub (ws' := [(q49, .inr (5, [.null, .int 0]))]) [15] rfl
  have hDc := hD.sub (ws' := [(q49, .inr (5, [.null, .int 0]))]) [15] (by decide) rfl
  refine k_callv hP hD hS hA [15] [0, 1, 2, 3, 4, 5, 6, 7, 8, 9, 10, 11, 12, 13, 14] (wc := [(q49, .inr (5, [.null, .int 0]))]) (wr := [(x0, .inr (0, [.ref q5, .ref q16, .ref q27, .ref q38, .null, .null, .int 0])), (q5, .inr (1, [.ref bS_9])), (bS_9, .inl (cI, 12, .inl (fun _ => 0))), (q16, .inr (2, [.ref bT1_20, .ref bT2_20, .ref bT3_20, .int 0])), (bT1_20, .inl (cI, 30, .inl (fun _ => 0))), (bT2_20, .inl (cI, 30, .inl (fun _ => 0))), (bT3_20, .inl (cI, 30, .inl (fun _ => 0))), (q27, .inr (3, [.ref bK1_31, .ref bK2_31, .int 1000000000, .long 0, .long 0])), (bK1_31, .inl (cL, 4, .inr (.inl (fun _ => 0)))), (bK2_31, .inl (cI, 3, .inl (fun _ => 0))), (q38, .inr (4, [.ref bG1_42, .ref bG2_42, .ref bG3_42, .ref bG4_42, .int 0, .int 0, .long 0, .long 0, .long 0])), (bG1_42, .inl (cI, 4, .inl (fun _ => 0))), (bG2_42, .inl (cI, 4, .inl (fun _ => 0))), (bG3_42, .inl (cL, 4, .inr (.inl (fun _ => 0)))), (bG4_42, .inl (cI, 4, .inl (fun _ => 0)))]) rfl rfl (by decide) (by decide) (va_runIN (As := []) (rest := [.ref q49, .ref x0]) ⟨hx, hb, hml, hown, hwg⟩ (c_AcidPeaks_init l dC dI cI cL cZ q49 H49.size) ⟨va_cnB 0 hwg (g_I kw_78) rfl rfl rfl (hN _ nk_19) (hwg _ kw_19) (by decide +kernel) ⟨Nat.le_of_ble_eq_true rfl, Nat.le_of_ble_eq_true rfl⟩, rfl, hwg _ kw_77⟩ ⟨c_pre_call, c_pre_mk hPc hDc hK hN _⟩ rfl rfl hl.1 rfl (lv_room (Nat.le_of_ble_eq_true rfl)) d_DR_init_53 ⟨Nat.le_of_ble_eq_true rfl, Nat.le_of_ble_eq_true rfl⟩) (fun u H53 locs w53 hz1 hP hD hS => ?_)
  obtain ⟨bP_53, rfl⟩ : ∃ z, z = u := ⟨_, rfl⟩
  have hP := hP.sub (ws' := [(x0, .inr (0, [.ref q5, .ref q16, .ref q27, .ref q38, .null, .null, .int 0])), (q5, .inr (1, [.ref bS_9])), (bS_9, .inl (cI, 12, .inl (fun _ => 0))), (q16, .inr (2, [.ref bT1_20, .ref bT2_20, .ref bT3_20, .int 0])), (bT1_20, .inl (cI, 30, .inl (fun _ => 0))), (bT2_20, .inl (cI, 30, .inl (fun _ => 0))), (bT3_20, .inl (cI, 30, .inl (fun _ => 0))), (q27, .inr (3, [.ref bK1_31, .ref bK2_31, .int 1000000000, .long 0, .long 0])), (bK1_31, .inl (cL, 4, .inr (.inl (fun _ => 0)))), (bK2_31, .inl (cI, 3, .inl (fun _ => 0))), (q38, .inr (4, [.ref bG1_42, .ref bG2_42, .ref bG3_42, .ref bG4_42, .int 0, .int 0, .long 0, .long 0, .long 0])), (bG1_42, .inl (cI, 4, .inl (fun _ => 0))), (bG2_42, .inl (cI, 4, .inl (fun _ => 0))), (bG3_42, .inl (cL, 4, .inr (.inl (fun _ => 0)))), (bG4_42, .inl (cI, 4, .inl (fun _ => 0))), (q49, .inr (5, [.ref bP_53, .int 0])), (bP_53, .inl (cL, 64, .inr (.inl (fun _ => 0))))]) [0, 1, 2, 3, 4, 5, 6, 7, 8, 9, 10, 11, 12, 13, 14, 15, 16] rfl
  have hD := hD.sub (ws' := [(x0, .inr (0, [.ref q5, .ref q16, .ref q27, .ref q38, .null, .null, .int 0])), (q5, .inr (1, [.ref bS_9])), (bS_9, .inl (cI, 12, .inl (fun _ => 0))), (q16, .inr (2, [.ref bT1_20, .ref bT2_20, .ref bT3_20, .int 0])), (bT1_20, .inl (cI, 30, .inl (fun _ => 0))), (bT2_20, .inl (cI, 30, .inl (fun _ => 0))), (bT3_20, .inl (cI, 30, .inl (fun _ => 0))), (q27, .inr (3, [.ref bK1_31, .ref bK2_31, .int 1000000000, .long 0, .long 0])), (bK1_31, .inl (cL, 4, .inr (.inl (fun _ => 0)))), (bK2_31, .inl (cI, 3, .inl (fun _ => 0))), (q38, .inr (4, [.ref bG1_42, .ref bG2_42, .ref bG3_42, .ref bG4_42, .int 0, .int 0, .long 0, .long 0, .long 0])), (bG1_42, .inl (cI, 4, .inl (fun _ => 0))), (bG2_42, .inl (cI, 4, .inl (fun _ => 0))), (bG3_42, .inl (cL, 4, .inr (.inl (fun _ => 0)))), (bG4_42, .inl (cI, 4, .inl (fun _ => 0))), (q49, .inr (5, [.ref bP_53, .int 0])), (bP_53, .inl (cL, 64, .inr (.inl (fun _ => 0))))]) [0, 1, 2, 3, 4, 5, 6, 7, 8, 9, 10, 11, 12, 13, 14, 15, 16] (by decide) rfl
  refine va_putF (D := (dC, dI)) (ci := 0) (v := .ref q49) (ty := (.object "DigesterRates$AcidPeaks")) (C := R_DR) (T := F_DR) (N := 7) hx hb hwg iu_DR t_DR t_DR_ok n_DR hown hK hP hD hS 0 rfl rfl 4 (by decide) (hwg _ kw_96) (fun _ h9 => h9) rfl hin rfl (by decide +kernel) rfl rfl (Nat.le_of_ble_eq_true rfl) d_DR_init_56 (fun H56 locs hP hD hS => ?_)
  have hP : va_P (dC, dI) vwCl [(x0, .inr (0, [.ref q5, .ref q16, .ref q27, .ref q38, .ref q49, .null, .int 0])), (q5, .inr (1, [.ref bS_9])), (bS_9, .inl (cI, 12, .inl (fun _ => 0))), (q16, .inr (2, [.ref bT1_20, .ref bT2_20, .ref bT3_20, .int 0])), (bT1_20, .inl (cI, 30, .inl (fun _ => 0))), (bT2_20, .inl (cI, 30, .inl (fun _ => 0))), (bT3_20, .inl (cI, 30, .inl (fun _ => 0))), (q27, .inr (3, [.ref bK1_31, .ref bK2_31, .int 1000000000, .long 0, .long 0])), (bK1_31, .inl (cL, 4, .inr (.inl (fun _ => 0)))), (bK2_31, .inl (cI, 3, .inl (fun _ => 0))), (q38, .inr (4, [.ref bG1_42, .ref bG2_42, .ref bG3_42, .ref bG4_42, .int 0, .int 0, .long 0, .long 0, .long 0])), (bG1_42, .inl (cI, 4, .inl (fun _ => 0))), (bG2_42, .inl (cI, 4, .inl (fun _ => 0))), (bG3_42, .inl (cL, 4, .inr (.inl (fun _ => 0)))), (bG4_42, .inl (cI, 4, .inl (fun _ => 0))), (q49, .inr (5, [.ref bP_53, .int 0])), (bP_53, .inl (cL, 64, .inr (.inl (fun _ => 0))))] H56 := hP
  have hD : va_D A [(x0, .inr (0, [.ref q5, .ref q16, .ref q27, .ref q38, .ref q49, .null, .int 0])), (q5, .inr (1, [.ref bS_9])), (bS_9, .inl (cI, 12, .inl (fun _ => 0))), (q16, .inr (2, [.ref bT1_20, .ref bT2_20, .ref bT3_20, .int 0])), (bT1_20, .inl (cI, 30, .inl (fun _ => 0))), (bT2_20, .inl (cI, 30, .inl (fun _ => 0))), (bT3_20, .inl (cI, 30, .inl (fun _ => 0))), (q27, .inr (3, [.ref bK1_31, .ref bK2_31, .int 1000000000, .long 0, .long 0])), (bK1_31, .inl (cL, 4, .inr (.inl (fun _ => 0)))), (bK2_31, .inl (cI, 3, .inl (fun _ => 0))), (q38, .inr (4, [.ref bG1_42, .ref bG2_42, .ref bG3_42, .ref bG4_42, .int 0, .int 0, .long 0, .long 0, .long 0])), (bG1_42, .inl (cI, 4, .inl (fun _ => 0))), (bG2_42, .inl (cI, 4, .inl (fun _ => 0))), (bG3_42, .inl (cL, 4, .inr (.inl (fun _ => 0)))), (bG4_42, .inl (cI, 4, .inl (fun _ => 0))), (q49, .inr (5, [.ref bP_53, .int 0])), (bP_53, .inl (cL, 64, .inr (.inl (fun _ => 0))))] := hD
  refine lv_aload_n hx hb d_DR_init_59 rfl (lv_at hl 0 rfl) ?_
  refine va_new (ci := 6) (fs := [.null, .null, .null, .null, .int 0]) (C := R_Planner) (T := F_Planner) (N := 5) hx hb hwg iu_Planner t_Planner t_Planner_ok hown (hwg _ kw_82) (hwg _ kw_83) (hwg _ kw_20) hK hP hD hS hA rfl (fun j hj => by rcases (show j = 0 ∨ j = 1 ∨ j = 2 ∨ j = 3 ∨ j = 4 by omega) with rfl | rfl | rfl | rfl | rfl <;> rfl) (Nat.le_of_ble_eq_true rfl) (Nat.le_of_ble_eq_true rfl) d_DR_init_60 (fun q60 H60 hP hD hS => ?_)
  have hP : va_P (dC, dI) vwCl [(x0, .inr (0, [.ref q5, .ref q16, .ref q27, .ref q38, .ref q49, .null, .int 0])), (q5, .inr (1, [.ref bS_9])), (bS_9, .inl (cI, 12, .inl (fun _ => 0))), (q16, .inr (2, [.ref bT1_20, .ref bT2_20, .ref bT3_20, .int 0])), (bT1_20, .inl (cI, 30, .inl (fun _ => 0))), (bT2_20, .inl (cI, 30, .inl (fun _ => 0))), (bT3_20, .inl (cI, 30, .inl (fun _ => 0))), (q27, .inr (3, [.ref bK1_31, .ref bK2_31, .int 1000000000, .long 0, .long 0])), (bK1_31, .inl (cL, 4, .inr (.inl (fun _ => 0)))), (bK2_31, .inl (cI, 3, .inl (fun _ => 0))), (q38, .inr (4, [.ref bG1_42, .ref bG2_42, .ref bG3_42, .ref bG4_42, .int 0, .int 0, .long 0, .long 0, .long 0])), (bG1_42, .inl (cI, 4, .inl (fun _ => 0))), (bG2_42, .inl (cI, 4, .inl (fun _ => 0))), (bG3_42, .inl (cL, 4, .inr (.inl (fun _ => 0)))), (bG4_42, .inl (cI, 4, .inl (fun _ => 0))), (q49, .inr (5, [.ref bP_53, .int 0])), (bP_53, .inl (cL, 64, .inr (.inl (fun _ => 0)))), (q60, .inr (6, [.null, .null, .null, .null, .int 0]))] H60 := hP
  have hD : va_D A [(x0, .inr (0, [.ref q5, .ref q16, .ref q27, .ref q38, .ref q49, .null, .int 0])), (q5, .inr (1, [.ref bS_9])), (bS_9, .inl (cI, 12, .inl (fun _ => 0))), (q16, .inr (2, [.ref bT1_20, .ref bT2_20, .ref bT3_20, .int 0])), (bT1_20, .inl (cI, 30, .inl (fun _ => 0))), (bT2_20, .inl (cI, 30, .inl (fun _ => 0))), (bT3_20, .inl (cI, 30, .inl (fun _ => 0))), (q27, .inr (3, [.ref bK1_31, .ref bK2_31, .int 1000000000, .long 0, .long 0])), (bK1_31, .inl (cL, 4, .inr (.inl (fun _ => 0)))), (bK2_31, .inl (cI, 3, .inl (fun _ => 0))), (q38, .inr (4, [.ref bG1_42, .ref bG2_42, .ref bG3_42, .ref bG4_42, .int 0, .int 0, .long 0, .long 0, .long 0])), (bG1_42, .inl (cI, 4, .inl (fun _ => 0))), (bG2_42, .inl (cI, 4, .inl (fun _ => 0))), (bG3_42, .inl (cL, 4, .inr (.inl (fun _ => 0)))), (bG4_42, .inl (cI, 4, .inl (fun _ => 0))), (q49, .inr (5, [.ref bP_53, .int 0])), (bP_53, .inl (cL, 64, .inr (.inl (fun _ => 0)))), (q60, .inr (6, [.null, .null, .null, .null, .int 0]))] := hD
  refine lv_dup hx hb d_DR_init_63 rfl ?_
  have hPc := hP.sub (ws' := [(q60, .inr (6, [.null, .null, .null, .null, .int 0]))]) [17] rfl
  have hDc := hD.sub (ws' := [(q60, .inr (6, [.null, .null, .null, .null, .int 0]))]) [17] (by decide) rfl
  refine k_callv hP hD hS hA [17] [0, 1, 2, 3, 4, 5, 6, 7, 8, 9, 10, 11, 12, 13, 14, 15, 16] (wc := [(q60, .inr (6, [.null, .null, .null, .null, .int 0]))]) (wr := [(x0, .inr (0, [.ref q5, .ref q16, .ref q27, .ref q38, .ref q49, .null, .int 0])), (q5, .inr (1, [.ref bS_9])), (bS_9, .inl (cI, 12, .inl (fun _ => 0))), (q16, .inr (2, [.ref bT1_20, .ref bT2_20, .ref bT3_20, .int 0])), (bT1_20, .inl (cI, 30, .inl (fun _ => 0))), (bT2_20, .inl (cI, 30, .inl (fun _ => 0))), (bT3_20, .inl (cI, 30, .inl (fun _ => 0))), (q27, .inr (3, [.ref bK1_31, .ref bK2_31, .int 1000000000, .long 0, .long 0])), (bK1_31, .inl (cL, 4, .inr (.inl (fun _ => 0)))), (bK2_31, .inl (cI, 3, .inl (fun _ => 0))), (q38, .inr (4, [.ref bG1_42, .ref bG2_42, .ref bG3_42, .ref bG4_42, .int 0, .int 0, .long 0, .long 0, .long 0])), (bG1_42, .inl (cI, 4, .inl (fun _ => 0))), (bG2_42, .inl (cI, 4, .inl (fun _ => 0))), (bG3_42, .inl (cL, 4, .inr (.inl (fun _ => 0)))), (bG4_42, .inl (cI, 4, .inl (fun _ => 0))), (q49, .inr (5, [.ref bP_53, .int 0])), (bP_53, .inl (cL, 64, .inr (.inl (fun _ => 0))))]) rfl rfl (by decide) (by decide) (va_runIN (As := []) (rest := [.ref q60, .ref x0]) ⟨hx, hb, hml, hown, hwg⟩ (c_Planner_init l dC dI cI cL cZ q60 H60.size) ⟨va_cnB 0 hwg (g_I kw_85) rfl rfl rfl (hN _ nk_20) (hwg _ kw_20) (by decide +kernel) ⟨Nat.le_of_ble_eq_true rfl, Nat.le_of_ble_eq_true rfl⟩, rfl, hwg _ kw_84⟩ ⟨c_pre_call, c_pre_mk hPc hDc hK hN _⟩ rfl rfl hl.1 rfl (lv_room (Nat.le_of_ble_eq_true rfl)) d_DR_init_64 ⟨Nat.le_of_ble_eq_true rfl, Nat.le_of_ble_eq_true rfl⟩) (fun u H64 locs w64 hz1 hP hD hS => ?_)
  obtain ⟨bL1_64, bL2_64, bL3_64, bL4_64⟩ := u
  have hP := hP.sub (ws' := [(x0, .inr (0, [.ref q5, .ref q16, .ref q27, .ref q38, .ref q49, .null, .int 0])), (q5, .inr (1, [.ref bS_9])), (bS_9, .inl (cI, 12, .inl (fun _ => 0))), (q16, .inr (2, [.ref bT1_20, .ref bT2_20, .ref bT3_20, .int 0])), (bT1_20, .inl (cI, 30, .inl (fun _ => 0))), (bT2_20, .inl (cI, 30, .inl (fun _ => 0))), (bT3_20, .inl (cI, 30, .inl (fun _ => 0))), (q27, .inr (3, [.ref bK1_31, .ref bK2_31, .int 1000000000, .long 0, .long 0])), (bK1_31, .inl (cL, 4, .inr (.inl (fun _ => 0)))), (bK2_31, .inl (cI, 3, .inl (fun _ => 0))), (q38, .inr (4, [.ref bG1_42, .ref bG2_42, .ref bG3_42, .ref bG4_42, .int 0, .int 0, .long 0, .long 0, .long 0])), (bG1_42, .inl (cI, 4, .inl (fun _ => 0))), (bG2_42, .inl (cI, 4, .inl (fun _ => 0))), (bG3_42, .inl (cL, 4, .inr (.inl (fun _ => 0)))), (bG4_42, .inl (cI, 4, .inl (fun _ => 0))), (q49, .inr (5, [.ref bP_53, .int 0])), (bP_53, .inl (cL, 64, .inr (.inl (fun _ => 0)))), (q60, .inr (6, [.ref bL1_64, .ref bL2_64, .ref bL3_64, .ref bL4_64, .int 0])), (bL1_64, .inl (cI, 4, .inl (fun _ => 0))), (bL2_64, .inl (cI, 4, .inl (fun _ => 0))), (bL3_64, .inl (cI, 4, .inl (fun _ => 0))), (bL4_64, .inl (cI, 4, .inl (fun _ => 0)))]) [0, 1, 2, 3, 4, 5, 6, 7, 8, 9, 10, 11, 12, 13, 14, 15, 16, 17, 18, 19, 20, 21] rfl
  have hD := hD.sub (ws' := [(x0, .inr (0, [.ref q5, .ref q16, .ref q27, .ref q38, .ref q49, .null, .int 0])), (q5, .inr (1, [.ref bS_9])), (bS_9, .inl (cI, 12, .inl (fun _ => 0))), (q16, .inr (2, [.ref bT1_20, .ref bT2_20, .ref bT3_20, .int 0])), (bT1_20, .inl (cI, 30, .inl (fun _ => 0))), (bT2_20, .inl (cI, 30, .inl (fun _ => 0))), (bT3_20, .inl (cI, 30, .inl (fun _ => 0))), (q27, .inr (3, [.ref bK1_31, .ref bK2_31, .int 1000000000, .long 0, .long 0])), (bK1_31, .inl (cL, 4, .inr (.inl (fun _ => 0)))), (bK2_31, .inl (cI, 3, .inl (fun _ => 0))), (q38, .inr (4, [.ref bG1_42, .ref bG2_42, .ref bG3_42, .ref bG4_42, .int 0, .int 0, .long 0, .long 0, .long 0])), (bG1_42, .inl (cI, 4, .inl (fun _ => 0))), (bG2_42, .inl (cI, 4, .inl (fun _ => 0))), (bG3_42, .inl (cL, 4, .inr (.inl (fun _ => 0)))), (bG4_42, .inl (cI, 4, .inl (fun _ => 0))), (q49, .inr (5, [.ref bP_53, .int 0])), (bP_53, .inl (cL, 64, .inr (.inl (fun _ => 0)))), (q60, .inr (6, [.ref bL1_64, .ref bL2_64, .ref bL3_64, .ref bL4_64, .int 0])), (bL1_64, .inl (cI, 4, .inl (fun _ => 0))), (bL2_64, .inl (cI, 4, .inl (fun _ => 0))), (bL3_64, .inl (cI, 4, .inl (fun _ => 0))), (bL4_64, .inl (cI, 4, .inl (fun _ => 0)))]) [0, 1, 2, 3, 4, 5, 6, 7, 8, 9, 10, 11, 12, 13, 14, 15, 16, 17, 18, 19, 20, 21] (by decide) rfl
  refine va_putF (D := (dC, dI)) (ci := 0) (v := .ref q60) (ty := (.object "DigesterRates$Planner")) (C := R_DR) (T := F_DR) (N := 7) hx hb hwg iu_DR t_DR t_DR_ok n_DR hown hK hP hD hS 0 rfl rfl 5 (by decide) (hwg _ kw_97) (fun _ h9 => h9) rfl hin rfl (by decide +kernel) rfl rfl (Nat.le_of_ble_eq_true rfl) d_DR_init_67 (fun H67 locs hP hD hS => ?_)
  have hP : va_P (dC, dI) vwCl [(x0, .inr (0, [.ref q5, .ref q16, .ref q27, .ref q38, .ref q49, .ref q60, .int 0])), (q5, .inr (1, [.ref bS_9])), (bS_9, .inl (cI, 12, .inl (fun _ => 0))), (q16, .inr (2, [.ref bT1_20, .ref bT2_20, .ref bT3_20, .int 0])), (bT1_20, .inl (cI, 30, .inl (fun _ => 0))), (bT2_20, .inl (cI, 30, .inl (fun _ => 0))), (bT3_20, .inl (cI, 30, .inl (fun _ => 0))), (q27, .inr (3, [.ref bK1_31, .ref bK2_31, .int 1000000000, .long 0, .long 0])), (bK1_31, .inl (cL, 4, .inr (.inl (fun _ => 0)))), (bK2_31, .inl (cI, 3, .inl (fun _ => 0))), (q38, .inr (4, [.ref bG1_42, .ref bG2_42, .ref bG3_42, .ref bG4_42, .int 0, .int 0, .long 0, .long 0, .long 0])), (bG1_42, .inl (cI, 4, .inl (fun _ => 0))), (bG2_42, .inl (cI, 4, .inl (fun _ => 0))), (bG3_42, .inl (cL, 4, .inr (.inl (fun _ => 0)))), (bG4_42, .inl (cI, 4, .inl (fun _ => 0))), (q49, .inr (5, [.ref bP_53, .int 0])), (bP_53, .inl (cL, 64, .inr (.inl (fun _ => 0)))), (q60, .inr (6, [.ref bL1_64, .ref bL2_64, .ref bL3_64, .ref bL4_64, .int 0])), (bL1_64, .inl (cI, 4, .inl (fun _ => 0))), (bL2_64, .inl (cI, 4, .inl (fun _ => 0))), (bL3_64, .inl (cI, 4, .inl (fun _ => 0))), (bL4_64, .inl (cI, 4, .inl (fun _ => 0)))] H67 := hP
  have hD : va_D A [(x0, .inr (0, [.ref q5, .ref q16, .ref q27, .ref q38, .ref q49, .ref q60, .int 0])), (q5, .inr (1, [.ref bS_9])), (bS_9, .inl (cI, 12, .inl (fun _ => 0))), (q16, .inr (2, [.ref bT1_20, .ref bT2_20, .ref bT3_20, .int 0])), (bT1_20, .inl (cI, 30, .inl (fun _ => 0))), (bT2_20, .inl (cI, 30, .inl (fun _ => 0))), (bT3_20, .inl (cI, 30, .inl (fun _ => 0))), (q27, .inr (3, [.ref bK1_31, .ref bK2_31, .int 1000000000, .long 0, .long 0])), (bK1_31, .inl (cL, 4, .inr (.inl (fun _ => 0)))), (bK2_31, .inl (cI, 3, .inl (fun _ => 0))), (q38, .inr (4, [.ref bG1_42, .ref bG2_42, .ref bG3_42, .ref bG4_42, .int 0, .int 0, .long 0, .long 0, .long 0])), (bG1_42, .inl (cI, 4, .inl (fun _ => 0))), (bG2_42, .inl (cI, 4, .inl (fun _ => 0))), (bG3_42, .inl (cL, 4, .inr (.inl (fun _ => 0)))), (bG4_42, .inl (cI, 4, .inl (fun _ => 0))), (q49, .inr (5, [.ref bP_53, .int 0])), (bP_53, .inl (cL, 64, .inr (.inl (fun _ => 0)))), (q60, .inr (6, [.ref bL1_64, .ref bL2_64, .ref bL3_64, .ref bL4_64, .int 0])), (bL1_64, .inl (cI, 4, .inl (fun _ => 0))), (bL2_64, .inl (cI, 4, .inl (fun _ => 0))), (bL3_64, .inl (cI, 4, .inl (fun _ => 0))), (bL4_64, .inl (cI, 4, .inl (fun _ => 0)))] := hD
  refine lv_aload_n hx hb d_DR_init_70 rfl (lv_at hl 0 rfl) ?_
  refine lv_iconst (v := 0) hx hb d_DR_init_71 (by decide) ?_
  refine va_put (D := (dC, dI)) (ci := 0) (v := .int 0) (ty := .int) (C := R_DR) (T := F_DR) (N := 7) hx hb hwg iu_DR t_DR t_DR_ok n_DR hown hK hP hD hS 0 rfl rfl 6 (by decide) (hwg _ kw_98) (fun _ h9 => h9) rfl (by decide +kernel) rfl rfl (Nat.le_of_ble_eq_true rfl) d_DR_init_72 (fun H72 locs hP hD hS => ?_)
  have hP : va_P (dC, dI) vwCl [(x0, .inr (0, [.ref q5, .ref q16, .ref q27, .ref q38, .ref q49, .ref q60, .int 0])), (q5, .inr (1, [.ref bS_9])), (bS_9, .inl (cI, 12, .inl (fun _ => 0))), (q16, .inr (2, [.ref bT1_20, .ref bT2_20, .ref bT3_20, .int 0])), (bT1_20, .inl (cI, 30, .inl (fun _ => 0))), (bT2_20, .inl (cI, 30, .inl (fun _ => 0))), (bT3_20, .inl (cI, 30, .inl (fun _ => 0))), (q27, .inr (3, [.ref bK1_31, .ref bK2_31, .int 1000000000, .long 0, .long 0])), (bK1_31, .inl (cL, 4, .inr (.inl (fun _ => 0)))), (bK2_31, .inl (cI, 3, .inl (fun _ => 0))), (q38, .inr (4, [.ref bG1_42, .ref bG2_42, .ref bG3_42, .ref bG4_42, .int 0, .int 0, .long 0, .long 0, .long 0])), (bG1_42, .inl (cI, 4, .inl (fun _ => 0))), (bG2_42, .inl (cI, 4, .inl (fun _ => 0))), (bG3_42, .inl (cL, 4, .inr (.inl (fun _ => 0)))), (bG4_42, .inl (cI, 4, .inl (fun _ => 0))), (q49, .inr (5, [.ref bP_53, .int 0])), (bP_53, .inl (cL, 64, .inr (.inl (fun _ => 0)))), (q60, .inr (6, [.ref bL1_64, .ref bL2_64, .ref bL3_64, .ref bL4_64, .int 0])), (bL1_64, .inl (cI, 4, .inl (fun _ => 0))), (bL2_64, .inl (cI, 4, .inl (fun _ => 0))), (bL3_64, .inl (cI, 4, .inl (fun _ => 0))), (bL4_64, .inl (cI, 4, .inl (fun _ => 0)))] H72 := hP
  have hD : va_D A [(x0, .inr (0, [.ref q5, .ref q16, .ref q27, .ref q38, .ref q49, .ref q60, .int 0])), (q5, .inr (1, [.ref bS_9])), (bS_9, .inl (cI, 12, .inl (fun _ => 0))), (q16, .inr (2, [.ref bT1_20, .ref bT2_20, .ref bT3_20, .int 0])), (bT1_20, .inl (cI, 30, .inl (fun _ => 0))), (bT2_20, .inl (cI, 30, .inl (fun _ => 0))), (bT3_20, .inl (cI, 30, .inl (fun _ => 0))), (q27, .inr (3, [.ref bK1_31, .ref bK2_31, .int 1000000000, .long 0, .long 0])), (bK1_31, .inl (cL, 4, .inr (.inl (fun _ => 0)))), (bK2_31, .inl (cI, 3, .inl (fun _ => 0))), (q38, .inr (4, [.ref bG1_42, .ref bG2_42, .ref bG3_42, .ref bG4_42, .int 0, .int 0, .long 0, .long 0, .long 0])), (bG1_42, .inl (cI, 4, .inl (fun _ => 0))), (bG2_42, .inl (cI, 4, .inl (fun _ => 0))), (bG3_42, .inl (cL, 4, .inr (.inl (fun _ => 0)))), (bG4_42, .inl (cI, 4, .inl (fun _ => 0))), (q49, .inr (5, [.ref bP_53, .int 0])), (bP_53, .inl (cL, 64, .inr (.inl (fun _ => 0)))), (q60, .inr (6, [.ref bL1_64, .ref bL2_64, .ref bL3_64, .ref bL4_64, .int 0])), (bL1_64, .inl (cI, 4, .inl (fun _ => 0))), (bL2_64, .inl (cI, 4, .inl (fun _ => 0))), (bL3_64, .inl (cI, 4, .inl (fun _ => 0))), (bL4_64, .inl (cI, 4, .inl (fun _ => 0)))] := hD
  have hP9 := hP.sub (ws' := [(x0, .inr (0, [.ref q5, .ref q16, .ref q27, .ref q38, .ref q49, .ref q60, .int 0])), (q5, .inr (1, [.ref bS_9])), (q16, .inr (2, [.ref bT1_20, .ref bT2_20, .ref bT3_20, .int 0])), (q27, .inr (3, [.ref bK1_31, .ref bK2_31, .int 1000000000, .long 0, .long 0])), (q38, .inr (4, [.ref bG1_42, .ref bG2_42, .ref bG3_42, .ref bG4_42, .int 0, .int 0, .long 0, .long 0, .long 0])), (q49, .inr (5, [.ref bP_53, .int 0])), (q60, .inr (6, [.ref bL1_64, .ref bL2_64, .ref bL3_64, .ref bL4_64, .int 0])), (bS_9, .inl (cI, 12, .inl (fun _ => 0))), (bT1_20, .inl (cI, 30, .inl (fun _ => 0))), (bT2_20, .inl (cI, 30, .inl (fun _ => 0))), (bT3_20, .inl (cI, 30, .inl (fun _ => 0))), (bK1_31, .inl (cL, 4, .inr (.inl (fun _ => 0)))), (bK2_31, .inl (cI, 3, .inl (fun _ => 0))), (bG1_42, .inl (cI, 4, .inl (fun _ => 0))), (bG2_42, .inl (cI, 4, .inl (fun _ => 0))), (bG3_42, .inl (cL, 4, .inr (.inl (fun _ => 0)))), (bG4_42, .inl (cI, 4, .inl (fun _ => 0))), (bP_53, .inl (cL, 64, .inr (.inl (fun _ => 0)))), (bL1_64, .inl (cI, 4, .inl (fun _ => 0))), (bL2_64, .inl (cI, 4, .inl (fun _ => 0))), (bL3_64, .inl (cI, 4, .inl (fun _ => 0))), (bL4_64, .inl (cI, 4, .inl (fun _ => 0)))]) [0, 1, 3, 7, 10, 15, 17, 2, 4, 5, 6, 8, 9, 11, 12, 13, 14, 16, 18, 19, 20, 21] rfl
  have hD9 := hD.sub (ws' := [(x0, .inr (0, [.ref q5, .ref q16, .ref q27, .ref q38, .ref q49, .ref q60, .int 0])), (q5, .inr (1, [.ref bS_9])), (q16, .inr (2, [.ref bT1_20, .ref bT2_20, .ref bT3_20, .int 0])), (q27, .inr (3, [.ref bK1_31, .ref bK2_31, .int 1000000000, .long 0, .long 0])), (q38, .inr (4, [.ref bG1_42, .ref bG2_42, .ref bG3_42, .ref bG4_42, .int 0, .int 0, .long 0, .long 0, .long 0])), (q49, .inr (5, [.ref bP_53, .int 0])), (q60, .inr (6, [.ref bL1_64, .ref bL2_64, .ref bL3_64, .ref bL4_64, .int 0])), (bS_9, .inl (cI, 12, .inl (fun _ => 0))), (bT1_20, .inl (cI, 30, .inl (fun _ => 0))), (bT2_20, .inl (cI, 30, .inl (fun _ => 0))), (bT3_20, .inl (cI, 30, .inl (fun _ => 0))), (bK1_31, .inl (cL, 4, .inr (.inl (fun _ => 0)))), (bK2_31, .inl (cI, 3, .inl (fun _ => 0))), (bG1_42, .inl (cI, 4, .inl (fun _ => 0))), (bG2_42, .inl (cI, 4, .inl (fun _ => 0))), (bG3_42, .inl (cL, 4, .inr (.inl (fun _ => 0)))), (bG4_42, .inl (cI, 4, .inl (fun _ => 0))), (bP_53, .inl (cL, 64, .inr (.inl (fun _ => 0)))), (bL1_64, .inl (cI, 4, .inl (fun _ => 0))), (bL2_64, .inl (cI, 4, .inl (fun _ => 0))), (bL3_64, .inl (cI, 4, .inl (fun _ => 0))), (bL4_64, .inl (cI, 4, .inl (fun _ => 0)))]) [0, 1, 3, 7, 10, 15, 17, 2, 4, 5, 6, 8, 9, 11, 12, 13, 14, 16, 18, 19, 20, 21] (by decide) rfl
  refine W.widen (k := 21) (n := 231) (by decide) (by decide) ?_
  exact W.vret hx hb hr (fun t ht hW => ⟨⟨(q5, q16, q27, q38, q49, q60, bS_9, bT1_20, bT2_20, bT3_20, bK1_31, bK2_31, bG1_42, bG2_42, bG3_42, bG4_42, bP_53, bL1_64, bL2_64, bL3_64, bL4_64), rfl, trivial, by rw [ht]; exact hP9, hD9⟩, hS.F ht⟩) hS.2.2 d_DR_init_75
