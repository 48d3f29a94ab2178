theorem in_mk {a : Int32} {pl : Nat} (hs : vp_in a 10001) (hpl : pl ≤ 10000) : vp_in (if a < (if (2 * (nI pl)) < 10000 then (2 * (nI pl)) else 10000) then (if (2 * (nI pl)) < 10000 then (2 * (nI pl)) else 10000) else a) 10001 := by
  have h2 : 2 * nI pl = nI (2 * pl) := by rw [show (2 : Int32) = nI 2 from rfl, pk_mul]
  have e2 : (nI (2 * pl)).toInt = ((2 * pl : Nat) : Int) := nI_toInt (by omega)
  rw [vp_in_iff] at hs ⊢
  rw [h2, max_i, min_i, e2, t_10000]
  omega
theorem cp_v {p2 : Int32} {pl : Nat} (h : vp_in p2 10001) (hpl : pl ≤ 10000) : (Int32.toNatClampNeg (if p2 < (nI pl) then p2 else (nI pl))) = min p2.toNatClampNeg pl := by
  rw [vp_in_iff] at h
  have e : (nI pl).toInt = (pl : Int) := nI_toInt (by omega)
  show (if p2 < (nI pl) then p2 else (nI pl)).toInt.toNat = min p2.toInt.toNat pl
  rw [min_i, e]; omega
theorem cp_nn {p2 : Int32} {pl : Nat} (h : vp_in p2 10001) (hpl : pl ≤ 10000) : ¬ (if p2 < (nI pl) then p2 else (nI pl)) < 0 := by
  rw [vp_in_iff] at h
  have e : (nI pl).toInt = (pl : Int) := nI_toInt (by omega)
  rw [Int32.lt_iff_toInt_lt, min_i, e, t_0]; omega
theorem cp_le1 {p2 : Int32} {pl : Nat} (h : vp_in p2 10001) (hpl : pl ≤ 10000) : Int32.toNatClampNeg 0 + Int32.toNatClampNeg (if p2 < (nI pl) then p2 else (nI pl)) ≤ pl := by
  rw [cp_v h hpl]; show 0 + _ ≤ _; omega
theorem cp_le2 {p2 : Int32} {pl : Nat} (h : vp_in p2 10001) (hpl : pl ≤ 10000) : Int32.toNatClampNeg 0 + Int32.toNatClampNeg (if p2 < (nI pl) then p2 else (nI pl)) ≤ p2.toNatClampNeg := by
  rw [cp_v h hpl]; show 0 + _ ≤ _; omega
theorem mk_ne {a : Int32} {pl : Nat} (hs : vp_in a 10001) (hpl : pl ≤ 10000) (c : ¬ a ≤ nI pl) : ¬ (if a < (if (2 * (nI pl)) < 10000 then (2 * (nI pl)) else 10000) then (if (2 * (nI pl)) < 10000 then (2 * (nI pl)) else 10000) else a) = nI pl := by
  intro q
  have e := congrArg Int32.toInt q
  rw [Int32.le_iff_toInt_le] at c
  rw [max_i] at e
  omega
theorem d_Arrays_copyOf_0 : decode b_Arrays_copyOf 0 = .ok (.iload_n 1, 1) := by decide +kernel
theorem d_Arrays_copyOf_1 : decode b_Arrays_copyOf 1 = .ok (.aload_n 0, 1) := by decide +kernel
theorem d_Arrays_copyOf_2 : decode b_Arrays_copyOf 2 = .ok (.arraylength, 1) := by decide +kernel
theorem d_Arrays_copyOf_3 : decode b_Arrays_copyOf 3 = .ok (.if_icmp .ne 11, 3) := by decide +kernel
theorem d_Arrays_copyOf_14 : decode b_Arrays_copyOf 14 = .ok (.iload_n 1, 1) := by decide +kernel
theorem d_Arrays_copyOf_15 : decode b_Arrays_copyOf 15 = .ok (.newarray .long, 2) := by decide +kernel
theorem d_Arrays_copyOf_17 : decode b_Arrays_copyOf 17 = .ok (.astore_n 2, 1) := by decide +kernel
theorem d_Arrays_copyOf_18 : decode b_Arrays_copyOf 18 = .ok (.aload_n 0, 1) := by decide +kernel
theorem d_Arrays_copyOf_19 : decode b_Arrays_copyOf 19 = .ok (.iconst 0, 1) := by decide +kernel
theorem d_Arrays_copyOf_20 : decode b_Arrays_copyOf 20 = .ok (.aload_n 2, 1) := by decide +kernel
theorem d_Arrays_copyOf_21 : decode b_Arrays_copyOf 21 = .ok (.iconst 0, 1) := by decide +kernel
theorem d_Arrays_copyOf_22 : decode b_Arrays_copyOf 22 = .ok (.aload_n 0, 1) := by decide +kernel
theorem d_Arrays_copyOf_23 : decode b_Arrays_copyOf 23 = .ok (.arraylength, 1) := by decide +kernel
theorem d_Arrays_copyOf_24 : decode b_Arrays_copyOf 24 = .ok (.iload_n 1, 1) := by decide +kernel
theorem d_Arrays_copyOf_25 : decode b_Arrays_copyOf 25 = .ok (.invokestatic 304, 3) := by decide +kernel
theorem d_Arrays_copyOf_28 : decode b_Arrays_copyOf 28 = .ok (.invokestatic 150, 3) := by decide +kernel
theorem d_Arrays_copyOf_31 : decode b_Arrays_copyOf 31 = .ok (.aload_n 2, 1) := by decide +kernel
theorem d_Arrays_copyOf_32 : decode b_Arrays_copyOf 32 = .ok (.areturn, 1) := by decide +kernel
theorem d_AcidPeaks_makeRoomFor_0 : decode b_AcidPeaks_makeRoomFor 0 = .ok (.aload_n 0, 1) := by decide +kernel
theorem d_AcidPeaks_makeRoomFor_1 : decode b_AcidPeaks_makeRoomFor 1 = .ok (.getfield 15, 3) := by decide +kernel
theorem d_AcidPeaks_makeRoomFor_4 : decode b_AcidPeaks_makeRoomFor 4 = .ok (.iload_n 1, 1) := by decide +kernel
theorem d_AcidPeaks_makeRoomFor_5 : decode b_AcidPeaks_makeRoomFor 5 = .ok (.iadd, 1) := by decide +kernel
theorem d_AcidPeaks_makeRoomFor_6 : decode b_AcidPeaks_makeRoomFor 6 = .ok (.istore_n 2, 1) := by decide +kernel
theorem d_AcidPeaks_makeRoomFor_7 : decode b_AcidPeaks_makeRoomFor 7 = .ok (.iload_n 2, 1) := by decide +kernel
theorem d_AcidPeaks_makeRoomFor_8 : decode b_AcidPeaks_makeRoomFor 8 = .ok (.aload_n 0, 1) := by decide +kernel
theorem d_AcidPeaks_makeRoomFor_9 : decode b_AcidPeaks_makeRoomFor 9 = .ok (.getfield 11, 3) := by decide +kernel
theorem d_AcidPeaks_makeRoomFor_12 : decode b_AcidPeaks_makeRoomFor 12 = .ok (.arraylength, 1) := by decide +kernel
theorem d_AcidPeaks_makeRoomFor_13 : decode b_AcidPeaks_makeRoomFor 13 = .ok (.if_icmp .le 31, 3) := by decide +kernel
theorem d_AcidPeaks_makeRoomFor_16 : decode b_AcidPeaks_makeRoomFor 16 = .ok (.aload_n 0, 1) := by decide +kernel
theorem d_AcidPeaks_makeRoomFor_17 : decode b_AcidPeaks_makeRoomFor 17 = .ok (.aload_n 0, 1) := by decide +kernel
theorem d_AcidPeaks_makeRoomFor_18 : decode b_AcidPeaks_makeRoomFor 18 = .ok (.getfield 11, 3) := by decide +kernel
theorem d_AcidPeaks_makeRoomFor_21 : decode b_AcidPeaks_makeRoomFor 21 = .ok (.iload_n 2, 1) := by decide +kernel
theorem d_AcidPeaks_makeRoomFor_22 : decode b_AcidPeaks_makeRoomFor 22 = .ok (.sipush 10000, 3) := by decide +kernel
theorem d_AcidPeaks_makeRoomFor_25 : decode b_AcidPeaks_makeRoomFor 25 = .ok (.iconst 2, 1) := by decide +kernel
theorem d_AcidPeaks_makeRoomFor_26 : decode b_AcidPeaks_makeRoomFor 26 = .ok (.aload_n 0, 1) := by decide +kernel
theorem d_AcidPeaks_makeRoomFor_27 : decode b_AcidPeaks_makeRoomFor 27 = .ok (.getfield 11, 3) := by decide +kernel
theorem d_AcidPeaks_makeRoomFor_30 : decode b_AcidPeaks_makeRoomFor 30 = .ok (.arraylength, 1) := by decide +kernel
theorem d_AcidPeaks_makeRoomFor_31 : decode b_AcidPeaks_makeRoomFor 31 = .ok (.imul, 1) := by decide +kernel
theorem d_AcidPeaks_makeRoomFor_32 : decode b_AcidPeaks_makeRoomFor 32 = .ok (.invokestatic 19, 3) := by decide +kernel
theorem d_AcidPeaks_makeRoomFor_35 : decode b_AcidPeaks_makeRoomFor 35 = .ok (.invokestatic 25, 3) := by decide +kernel
theorem d_AcidPeaks_makeRoomFor_38 : decode b_AcidPeaks_makeRoomFor 38 = .ok (.invokestatic 28, 3) := by decide +kernel
theorem d_AcidPeaks_makeRoomFor_41 : decode b_AcidPeaks_makeRoomFor 41 = .ok (.putfield 11, 3) := by decide +kernel
theorem d_AcidPeaks_makeRoomFor_44 : decode b_AcidPeaks_makeRoomFor 44 = .ok (.return_, 1) := by decide +kernel
theorem d_DR_run_0 : decode b_DR_run 0 = .ok (.iload_n 1, 1) := by decide +kernel
theorem d_DR_run_1 : decode b_DR_run 1 = .ok (.iconst 1, 1) := by decide +kernel
theorem d_DR_run_2 : decode b_DR_run 2 = .ok (.sipush 1000, 3) := by decide +kernel
theorem d_DR_run_5 : decode b_DR_run 5 = .ok (.invokestatic 59, 3) := by decide +kernel
theorem d_DR_run_8 : decode b_DR_run 8 = .ok (.ifCond .eq 15, 3) := by decide +kernel
theorem d_DR_run_11 : decode b_DR_run 11 = .ok (.aload_n 0, 1) := by decide +kernel
theorem d_DR_run_12 : decode b_DR_run 12 = .ok (.getfield 51, 3) := by decide +kernel
theorem d_DR_run_15 : decode b_DR_run 15 = .ok (.iload_n 1, 1) := by decide +kernel
theorem d_DR_run_16 : decode b_DR_run 16 = .ok (.iadd, 1) := by decide +kernel
theorem d_DR_run_17 : decode b_DR_run 17 = .ok (.sipush 10000, 3) := by decide +kernel
theorem d_DR_run_20 : decode b_DR_run 20 = .ok (.if_icmp .le 5, 3) := by decide +kernel
theorem d_DR_run_23 : decode b_DR_run 23 = .ok (.iconst (-1), 1) := by decide +kernel
theorem d_DR_run_24 : decode b_DR_run 24 = .ok (.ireturn, 1) := by decide +kernel
theorem d_DR_run_25 : decode b_DR_run 25 = .ok (.aload_n 0, 1) := by decide +kernel
theorem d_DR_run_26 : decode b_DR_run 26 = .ok (.getfield 40, 3) := by decide +kernel
theorem d_DR_run_29 : decode b_DR_run 29 = .ok (.iload_n 1, 1) := by decide +kernel
theorem d_DR_run_30 : decode b_DR_run 30 = .ok (.invokevirtual 103, 3) := by decide +kernel
theorem d_DR_run_33 : decode b_DR_run 33 = .ok (.iconst 0, 1) := by decide +kernel
theorem d_DR_run_34 : decode b_DR_run 34 = .ok (.istore_n 2, 1) := by decide +kernel
theorem d_DR_run_35 : decode b_DR_run 35 = .ok (.iload_n 2, 1) := by decide +kernel
theorem d_DR_run_36 : decode b_DR_run 36 = .ok (.iload_n 1, 1) := by decide +kernel
theorem d_DR_run_37 : decode b_DR_run 37 = .ok (.if_icmp .ge 13, 3) := by decide +kernel
theorem d_DR_run_40 : decode b_DR_run 40 = .ok (.aload_n 0, 1) := by decide +kernel
theorem d_DR_run_41 : decode b_DR_run 41 = .ok (.invokevirtual 107, 3) := by decide +kernel
theorem d_DR_run_44 : decode b_DR_run 44 = .ok (.iinc 2 1, 3) := by decide +kernel
theorem d_DR_run_47 : decode b_DR_run 47 = .ok (.goto (-12), 3) := by decide +kernel
theorem d_DR_run_50 : decode b_DR_run 50 = .ok (.aload_n 0, 1) := by decide +kernel
theorem d_DR_run_51 : decode b_DR_run 51 = .ok (.getfield 51, 3) := by decide +kernel
theorem d_DR_run_54 : decode b_DR_run 54 = .ok (.ireturn, 1) := by decide +kernel
abbrev rm_Arrays_copyOf : Room := { frames := 1, cells := 1, slots := 10000, locals := 18 }
set_option maxHeartbeats 4000000 in
set_option maxRecDepth 100000 in
theorem c_Arrays_copyOf (l : Launch) (dC : Nat → ClassId) (dI : Nat → Nat → Nat) (cI cL cZ : ClassId) (a0 : Nat) (sz : Nat) (pl : Nat) (pk : Nat → Int64) (p2 : Int32) (hp2 : vp_in p2 10001) (hpl : pl ≤ 10000) (hne : ¬ p2 = nI pl) : Met l y_Arrays_copyOf w_Arrays_copyOf rm_Arrays_copyOf (va_Pc [.ref a0, .int p2] (c_pre dC dI cI cL cZ [(a0, .inl (cL, pl, .inr (.inl pk)))] sz)) (va_Qr (fun (_ : Unit) => True) (fun (u : Unit) (q : Nat) t => va_P (dC, dI) vwCl [(a0, .inl (cL, pl, .inr (.inl pk))), (q, .inl (cL, p2.toNatClampNeg, .inr (.inl (va_cpy pk (fun _ => 0) 0 0 (Int32.toNatClampNeg (if p2 < nI pl then p2 else nI pl))))))] t.heap ∧ va_D (va_A [(a0, .inl (cL, pl, .inr (.inl pk)))] sz) [(a0, .inl (cL, pl, .inr (.inl pk))), (q, .inl (cL, p2.toNatClampNeg, .inr (.inl (va_cpy pk (fun _ => 0) 0 0 (Int32.toNatClampNeg (if p2 < nI pl then p2 else nI pl))))))]) (va_A [(a0, .inl (cL, pl, .inr (.inl pk)))] sz)) 1 10000 (va_A [(a0, .inl (cL, pl, .inr (.inl pk)))] sz) := by
  refine Met.ofW (cc := b_Arrays_copyOf) (maxL := 3) (ret := (some (.array .long))) (by decide) rfl ?_
  intro p e s m args below meth c s₁ B hml hv
  obtain ⟨rfl, hsz, hP, hK, hN, hD0⟩ := hv
  have hx := B.exec
  have hb := B.bytes
  have hr := B.returns
  have hts := atoms_spec (ws := w_Arrays_copyOf) B.pre
  have hown : s.vm.findClass R_Arrays = some m.cls := findClass_of_methodNamed B.named
  have hlocks := B.notSynchronized
  have hwg : ∀ w ∈ wg, w.before ([.ref a0, .int p2] : List Value).toArray s = true := fun w h => hts w (List.mem_cons_of_mem _ h)
  subst hsz
  have hD := hD0.self (sz := s.heap.size)
  generalize hAe : va_A [(a0, .inl (cL, pl, .inr (.inl pk)))] s.heap.size = A at hD ⊢
  have hA : ∀ q : Nat, s.heap.size ≤ q → A q := fun q h => by rw [← hAe]; exact Or.inr h
  have hS : va_S A s.heap s.heap [] := va_S.rf
  have hP : va_P (dC, dI) vwCl [(a0, .inl (cL, pl, .inr (.inl pk)))] s.heap := hP
  have hl := lv_entry ([.ref a0, .int p2]) (n := 3) (Nat.le_of_ble_eq_true rfl)
  rw [lg_entry_eq]
  generalize (lg_sl ([.ref a0, .int p2]) ++ List.replicate (3 - (lg_sl ([.ref a0, .int p2])).length) Slot.unset).toArray = ls at hl ⊢
  have hl : lv_has ls 3 [(0, .ref a0), (1, .int p2)] := hl
  refine lv_iload_n hx hb d_Arrays_copyOf_0 rfl (lv_at hl 1 rfl) ?_
  refine lv_aload_n hx hb d_Arrays_copyOf_1 rfl (lv_at hl 0 rfl) ?_
  refine va_alen hx hb hK hP 0 1 rfl rfl (v := nI pl) rfl d_Arrays_copyOf_2 ?_
  refine lv_icmp_ne (tgt := 14) hx hb d_Arrays_copyOf_3 (by decide) (fun (c3 : ¬ (p2 = (nI pl))) => ?_) (fun (c3 : p2 = (nI pl)) => ?_)
  rotate_left
  · exact absurd c3 hne
  refine lv_iload_n hx hb d_Arrays_copyOf_14 rfl (lv_at hl 1 rfl) ?_
  refine va_newa (atype := .long) (a0 := (p2.toNatClampNeg, .inr (.inl (fun _ => 0)))) (N' := p2.toNatClampNeg) hx hb (hwg _ kw_60) (ty := .long) rfl hK hP hD hS hA (va_zero_long _) (in_nn hp2) rfl (by have := in_lt hp2; show _ * 8 ≤ _; omega) (Nat.le_of_ble_eq_true rfl) (by have := in_lt hp2; show 0 + _ ≤ 10000; omega) d_Arrays_copyOf_15 (fun q15 cA H15 hK9 hP hD hS => ?_)
  obtain rfl : cL = cA := va_same_long hK hK9
  have hP : va_P (dC, dI) vwCl [(a0, .inl (cL, pl, .inr (.inl pk))), (q15, .inl (cL, p2.toNatClampNeg, .inr (.inl (fun _ => 0))))] H15 := hP
  have hD : va_D A [(a0, .inl (cL, pl, .inr (.inl pk))), (q15, .inl (cL, p2.toNatClampNeg, .inr (.inl (fun _ => 0))))] := hD
  refine lv_astore_n (lv' := [(2, .ref q15), (0, .ref a0), (1, .int p2)]) hx hb d_Arrays_copyOf_17 rfl hl (by decide) rfl (fun ls hl => ?_)
  refine lv_aload_n hx hb d_Arrays_copyOf_18 rfl (lv_at hl 1 rfl) ?_
  refine lv_iconst (v := 0) hx hb d_Arrays_copyOf_19 (by decide) ?_
  refine lv_aload_n hx hb d_Arrays_copyOf_20 rfl (lv_at hl 0 rfl) ?_
  refine lv_iconst (v := 0) hx hb d_Arrays_copyOf_21 (by decide) ?_
  refine lv_aload_n hx hb d_Arrays_copyOf_22 rfl (lv_at hl 1 rfl) ?_
  refine va_alen hx hb hK hP 0 1 rfl rfl (v := nI pl) rfl d_Arrays_copyOf_23 ?_
  refine lv_iload_n hx hb d_Arrays_copyOf_24 rfl (lv_at hl 2 rfl) ?_
  refine va_mmin hx hb (hml.trans hl.1.symm) hown (hwg _ kw_183) (hwg _ kw_174) (hwg _ kw_22) (hwg _ kw_175) (Nat.le_of_ble_eq_true rfl) (Nat.le_of_ble_eq_true rfl) (Nat.le_of_ble_eq_true rfl) (by have := in_lt hp2; show 0 + _ ≤ 10000; omega) d_Arrays_copyOf_25 ?_
  refine va_copyl hx hb (hml.trans hl.1.symm) hown (hwg _ kw_184) (hwg _ kw_186) (hwg _ kw_185) (hwg _ kw_24) hK hP hD hS 0 1 1 1 rfl rfl rfl rfl rfl (by decide) (by decide) (cp_nn hp2 hpl) (cp_le1 hp2 hpl) (cp_le2 hp2 hpl) (fun _ _ => rfl) (Nat.le_of_ble_eq_true rfl) (Nat.le_of_ble_eq_true rfl) d_Arrays_copyOf_28 (fun H28 locs hP hD hS => ?_)
  have hP : va_P (dC, dI) vwCl [(a0, .inl (cL, pl, .inr (.inl pk))), (q15, .inl (cL, p2.toNatClampNeg, .inr (.inl (va_cpy pk (fun _ => 0) 0 0 (Int32.toNatClampNeg (if p2 < (nI pl) then p2 else (nI pl)))))))] H28 := hP
  have hD : va_D A [(a0, .inl (cL, pl, .inr (.inl pk))), (q15, .inl (cL, p2.toNatClampNeg, .inr (.inl (va_cpy pk (fun _ => 0) 0 0 (Int32.toNatClampNeg (if p2 < (nI pl) then p2 else (nI pl)))))))] := hD
  refine lv_aload_n hx hb d_Arrays_copyOf_31 rfl (lv_at hl 0 rfl) ?_
  have hP9 := hP.sub (ws' := [(a0, .inl (cL, pl, .inr (.inl pk))), (q15, .inl (cL, p2.toNatClampNeg, .inr (.inl (va_cpy pk (fun _ => 0) 0 0 (Int32.toNatClampNeg (if p2 < nI pl then p2 else nI pl))))))]) [0, 1] rfl
  have hD9 := hD.sub (ws' := [(a0, .inl (cL, pl, .inr (.inl pk))), (q15, .inl (cL, p2.toNatClampNeg, .inr (.inl (va_cpy pk (fun _ => 0) 0 0 (Int32.toNatClampNeg (if p2 < nI pl then p2 else nI pl))))))]) [0, 1] (by decide) rfl
  refine W.widen (k := 1) (n := 10000) (by decide) (by have := in_lt hp2; omega) ?_
  exact W.aret (v := .ref q15) hx hb hr (Or.inr ⟨_, rfl⟩) (Or.inr ⟨_, rfl⟩) (fun t ht hW => ⟨⟨(), q15, rfl, trivial, by rw [ht]; exact hP9, hD9⟩, hS.F ht⟩) hS.2.2 d_Arrays_copyOf_32
def f_AcidPeaks_makeRoomFor (pn : Int32) (pl : Nat) (pk : Nat → Int64) (p1 : Int32) : Nat × (Nat → Int64) := if (pn + p1) ≤ (nI pl) then ((pl, pk)) else (((if (pn + p1) < (if (2 * (nI pl)) < 10000 then (2 * (nI pl)) else 10000) then (if (2 * (nI pl)) < 10000 then (2 * (nI pl)) else 10000) else (pn + p1)).toNatClampNeg, va_cpy pk (fun _ => 0) 0 0 (Int32.toNatClampNeg (if (if (pn + p1) < (if (2 * (nI pl)) < 10000 then (2 * (nI pl)) else 10000) then (if (2 * (nI pl)) < 10000 then (2 * (nI pl)) else 10000) else (pn + p1)) < nI pl then (if (pn + p1) < (if (2 * (nI pl)) < 10000 then (2 * (nI pl)) else 10000) then (if (2 * (nI pl)) < 10000 then (2 * (nI pl)) else 10000) else (pn + p1)) else nI pl))))
abbrev rm_AcidPeaks_makeRoomFor : Room := { frames := 2, cells := 1, slots := 10000, locals := 40 }
set_option maxHeartbeats 4000000 in
set_option maxRecDepth 100000 in
theorem c_AcidPeaks_makeRoomFor (l : Launch) (dC : Nat → ClassId) (dI : Nat → Nat → Nat) (cI cL cZ : ClassId) (aP bP : Nat) (sz : Nat) (pn : Int32) (pl : Nat) (pk : Nat → Int64) (p1 : Int32) (hpn : vp_in pn 10001) (hpl : pl ≤ 10000) (hp1 : vp_in p1 1001) (hs : vp_in (pn + p1) 10001) : Met l y_AcidPeaks_makeRoomFor w_AcidPeaks_makeRoomFor rm_AcidPeaks_makeRoomFor (va_Pc [.ref aP, .int p1] (c_pre dC dI cI cL cZ [(aP, .inr (5, [.ref bP, .int pn])), (bP, .inl (cL, pl, .inr (.inl pk)))] sz)) (va_Qv (fun (u : Nat × Nat × (Nat → Int64)) => f_AcidPeaks_makeRoomFor pn pl pk p1 = (u.2.1, u.2.2)) (c_post dC dI (fun (u : Nat × Nat × (Nat → Int64)) => [(aP, .inr (5, [.ref u.1, .int pn])), (u.1, .inl (cL, u.2.1, .inr (.inl u.2.2)))]) (va_A [(aP, .inr (5, [.ref bP, .int pn])), (bP, .inl (cL, pl, .inr (.inl pk)))] sz)) (va_A [(aP, .inr (5, [.ref bP, .int pn])), (bP, .inl (cL, pl, .inr (.inl pk)))] sz)) 1 10000 (va_A [(aP, .inr (5, [.ref bP, .int pn])), (bP, .inl (cL, pl, .inr (.inl pk)))] sz) := by
  refine Met.ofW (cc := b_AcidPeaks_makeRoomFor) (maxL := 3) (ret := none) (by decide) rfl ?_
  intro p e s m args below meth c s₁ B hml hv
  obtain ⟨rfl, hsz, hP, hK, hN, hD0⟩ := hv
  have hx := B.exec
  have hb := B.bytes
  have hr := B.returns
  have hts := atoms_spec (ws := w_AcidPeaks_makeRoomFor) B.pre
  have hown : s.vm.findClass R_AcidPeaks = some m.cls := findClass_of_methodNamed B.named
  have hlocks := B.notSynchronized
  have hwg : ∀ w ∈ wg, w.before ([.ref aP, .int p1] : List Value).toArray s = true := fun w h => hts w (List.mem_cons_of_mem _ h)
  subst hsz
  have hD := hD0.self (sz := s.heap.size)
  generalize hAe : va_A [(aP, .inr (5, [.ref bP, .int pn])), (bP, .inl (cL, pl, .inr (.inl pk)))] s.heap.size = A at hD ⊢
  have hA : ∀ q : Nat, s.heap.size ≤ q → A q := fun q h => by rw [← hAe]; exact Or.inr h
  have hS : va_S A s.heap s.heap [] := va_S.rf
  have hP : va_P (dC, dI) vwCl [(aP, .inr (5, [.ref bP, .int pn])), (bP, .inl (cL, pl, .inr (.inl pk)))] s.heap := hP
  have hl := lv_entry ([.ref aP, .int p1]) (n := 3) (Nat.le_of_ble_eq_true rfl)
  rw [lg_entry_eq]
  generalize (lg_sl ([.ref aP, .int p1]) ++ List.replicate (3 - (lg_sl ([.ref aP, .int p1])).length) Slot.unset).toArray = ls at hl ⊢
  have hl : lv_has ls 3 [(0, .ref aP), (1, .int p1)] := hl
  refine lv_aload_n hx hb d_AcidPeaks_makeRoomFor_0 rfl (lv_at hl 0 rfl) ?_
  refine va_get (D := (dC, dI)) (ci := 5) (v := .int pn) (C := R_AcidPeaks) (T := F_AcidPeaks) (N := 2) hx hb hwg iu_AcidPeaks hown hK hP 0 rfl rfl 1 (by decide) (hwg _ kw_81) (fun _ h9 => h9) rfl d_AcidPeaks_makeRoomFor_1 ?_
  refine lv_iload_n hx hb d_AcidPeaks_makeRoomFor_4 rfl (lv_at hl 1 rfl) ?_
  refine lv_iadd hx hb d_AcidPeaks_makeRoomFor_5 ?_
  refine lv_istore_n (lv' := [(2, .int (pn + p1)), (0, .ref aP), (1, .int p1)]) hx hb d_AcidPeaks_makeRoomFor_6 rfl hl (by decide) rfl (fun ls hl => ?_)
  refine lv_iload_n hx hb d_AcidPeaks_makeRoomFor_7 rfl (lv_at hl 0 rfl) ?_
  refine lv_aload_n hx hb d_AcidPeaks_makeRoomFor_8 rfl (lv_at hl 1 rfl) ?_
  refine va_get (D := (dC, dI)) (ci := 5) (v := .ref bP) (C := R_AcidPeaks) (T := F_AcidPeaks) (N := 2) hx hb hwg iu_AcidPeaks hown hK hP 0 rfl rfl 0 (by decide) (hwg _ kw_80) (fun _ h9 => h9) rfl d_AcidPeaks_makeRoomFor_9 ?_
  refine va_alen hx hb hK hP 1 1 rfl rfl (v := nI pl) rfl d_AcidPeaks_makeRoomFor_12 ?_
  refine lv_icmp_le (tgt := 44) hx hb d_AcidPeaks_makeRoomFor_13 (by decide) (fun (c13 : (pn + p1) ≤ (nI pl)) => ?_) (fun (c13 : ¬ ((pn + p1) ≤ (nI pl))) => ?_)
  · have hP9 := hP.sub (ws' := [(aP, .inr (5, [.ref bP, .int pn])), (bP, .inl (cL, pl, .inr (.inl pk)))]) [0, 1] rfl
    have hD9 := hD.sub (ws' := [(aP, .inr (5, [.ref bP, .int pn])), (bP, .inl (cL, pl, .inr (.inl pk)))]) [0, 1] (by decide) rfl
    refine W.widen (k := 1) (n := 10000) (by omega) (by omega) ?_
    exact W.vret hx hb hr (fun t ht hW => ⟨⟨(bP, pl, pk), rfl, by simp only [f_AcidPeaks_makeRoomFor, if_pos c13], by rw [ht]; exact hP9, hD9⟩, hS.F ht⟩) hS.2.2 d_AcidPeaks_makeRoomFor_44
  · refine lv_aload_n hx hb d_AcidPeaks_makeRoomFor_16 rfl (lv_at hl 1 rfl) ?_
    refine lv_aload_n hx hb d_AcidPeaks_makeRoomFor_17 rfl (lv_at hl 1 rfl) ?_
    refine va_get (D := (dC, dI)) (ci := 5) (v := .ref bP) (C := R_AcidPeaks) (T := F_AcidPeaks) (N := 2) hx hb hwg iu_AcidPeaks hown hK hP 0 rfl rfl 0 (by decide) (hwg _ kw_80) (fun _ h9 => h9) rfl d_AcidPeaks_makeRoomFor_18 ?_
    refine lv_iload_n hx hb d_AcidPeaks_makeRoomFor_21 rfl (lv_at hl 0 rfl) ?_
    refine lv_sipush (v := 10000) hx hb d_AcidPeaks_makeRoomFor_22 (by decide) ?_
    refine lv_iconst (v := 2) hx hb d_AcidPeaks_makeRoomFor_25 (by decide) ?_
    refine lv_aload_n hx hb d_AcidPeaks_makeRoomFor_26 rfl (lv_at hl 1 rfl) ?_
    refine va_get (D := (dC, dI)) (ci := 5) (v := .ref bP) (C := R_AcidPeaks) (T := F_AcidPeaks) (N := 2) hx hb hwg iu_AcidPeaks hown hK hP 0 rfl rfl 0 (by decide) (hwg _ kw_80) (fun _ h9 => h9) rfl d_AcidPeaks_makeRoomFor_27 ?_
    refine va_alen hx hb hK hP 1 1 rfl rfl (v := nI pl) rfl d_AcidPeaks_makeRoomFor_30 ?_
    refine lv_imul hx hb d_AcidPeaks_makeRoomFor_31 ?_
    refine va_mmin hx hb (hml.trans hl.1.symm) hown (hwg _ kw_173) (hwg _ kw_174) (hwg _ kw_22) (hwg _ kw_175) (Nat.le_of_ble_eq_true rfl) (Nat.le_of_ble_eq_true rfl) (Nat.zero_le _) (Nat.zero_le _) d_AcidPeaks_makeRoomFor_32 ?_
    refine va_mmax hx hb (hml.trans hl.1.symm) hown (hwg _ kw_176) (hwg _ kw_177) (hwg _ kw_22) (hwg _ kw_178) (Nat.le_of_ble_eq_true rfl) (Nat.le_of_ble_eq_true rfl) (Nat.zero_le _) (Nat.zero_le _) d_AcidPeaks_makeRoomFor_35 ?_
    have hPc := hP.sub (ws' := [(bP, .inl (cL, pl, .inr (.inl pk)))]) [1] rfl
    have hDc := hD.sub (ws' := [(bP, .inl (cL, pl, .inr (.inl pk)))]) [1] (by decide) rfl
    refine k_callr hP hD hS hA [1] [0] (wc := [(bP, .inl (cL, pl, .inr (.inl pk)))]) (wr := [(aP, .inr (5, [.ref bP, .int pn]))]) rfl rfl (by decide) (by decide) (va_runS (As := [.ref bP, .int (if (pn + p1) < (if (2 * (nI pl)) < 10000 then (2 * (nI pl)) else 10000) then (if (2 * (nI pl)) < 10000 then (2 * (nI pl)) else 10000) else (pn + p1))]) (rest := [.ref aP]) ⟨hx, hb, hml, hown, hwg⟩ (c_Arrays_copyOf l dC dI cI cL cZ bP s.heap.size pl pk (if (pn + p1) < (if (2 * (nI pl)) < 10000 then (2 * (nI pl)) else 10000) then (if (2 * (nI pl)) < 10000 then (2 * (nI pl)) else 10000) else (pn + p1)) (in_mk hs hpl) hpl (mk_ne hs hpl c13)) (va_cwS 2 hwg (g_S kw_179 kw_180 kw_23 kw_181) rfl rfl rfl (by decide +kernel) ⟨Nat.le_of_ble_eq_true rfl, Nat.le_of_ble_eq_true rfl⟩) ⟨c_pre_call, c_pre_mk hPc hDc hK hN _⟩ rfl rfl hl.1 rfl (lv_room (Nat.le_of_ble_eq_true rfl)) d_AcidPeaks_makeRoomFor_38 ⟨Nat.le_of_ble_eq_true rfl, Nat.le_of_ble_eq_true rfl⟩) (fun u r38 H38 locs w38 hz1 hP hD hS => ?_)
    have hP := hP.sub (ws' := [(aP, .inr (5, [.ref bP, .int pn])), (bP, .inl (cL, pl, .inr (.inl pk))), (r38, .inl (cL, ((if (pn + p1) < (if (2 * (nI pl)) < 10000 then (2 * (nI pl)) else 10000) then (if (2 * (nI pl)) < 10000 then (2 * (nI pl)) else 10000) else (pn + p1)).toNatClampNeg), .inr (.inl (va_cpy pk (fun _ => 0) 0 0 (Int32.toNatClampNeg (if (if (pn + p1) < (if (2 * (nI pl)) < 10000 then (2 * (nI pl)) else 10000) then (if (2 * (nI pl)) < 10000 then (2 * (nI pl)) else 10000) else (pn + p1)) < nI pl then (if (pn + p1) < (if (2 * (nI pl)) < 10000 then (2 * (nI pl)) else 10000) then (if (2 * (nI pl)) < 10000 then (2 * (nI pl)) else 10000) else (pn + p1)) else nI pl))))))]) [0, 1, 2] rfl
    have hD := hD.sub (ws' := [(aP, .inr (5, [.ref bP, .int pn])), (bP, .inl (cL, pl, .inr (.inl pk))), (r38, .inl (cL, ((if (pn + p1) < (if (2 * (nI pl)) < 10000 then (2 * (nI pl)) else 10000) then (if (2 * (nI pl)) < 10000 then (2 * (nI pl)) else 10000) else (pn + p1)).toNatClampNeg), .inr (.inl (va_cpy pk (fun _ => 0) 0 0 (Int32.toNatClampNeg (if (if (pn + p1) < (if (2 * (nI pl)) < 10000 then (2 * (nI pl)) else 10000) then (if (2 * (nI pl)) < 10000 then (2 * (nI pl)) else 10000) else (pn + p1)) < nI pl then (if (pn + p1) < (if (2 * (nI pl)) < 10000 then (2 * (nI pl)) else 10000) then (if (2 * (nI pl)) < 10000 then (2 * (nI pl)) else 10000) else (pn + p1)) else nI pl))))))]) [0, 1, 2] (by decide) rfl
    refine va_put (D := (dC, dI)) (ci := 5) (v := .ref r38) (ty := (.array .long)) (C := R_AcidPeaks) (T := F_AcidPeaks) (N := 2) hx hb hwg iu_AcidPeaks t_AcidPeaks t_AcidPeaks_ok n_AcidPeaks hown hK hP hD hS 0 rfl rfl 0 (by decide) (hwg _ kw_80) (fun _ h9 => h9) rfl (by decide +kernel) rfl rfl (Nat.le_of_ble_eq_true rfl) d_AcidPeaks_makeRoomFor_41 (fun H41 locs hP hD hS => ?_)
    have hP : va_P (dC, dI) vwCl [(aP, .inr (5, [.ref r38, .int pn])), (bP, .inl (cL, pl, .inr (.inl pk))), (r38, .inl (cL, ((if (pn + p1) < (if (2 * (nI pl)) < 10000 then (2 * (nI pl)) else 10000) then (if (2 * (nI pl)) < 10000 then (2 * (nI pl)) else 10000) else (pn + p1)).toNatClampNeg), .inr (.inl (va_cpy pk (fun _ => 0) 0 0 (Int32.toNatClampNeg (if (if (pn + p1) < (if (2 * (nI pl)) < 10000 then (2 * (nI pl)) else 10000) then (if (2 * (nI pl)) < 10000 then (2 * (nI pl)) else 10000) else (pn + p1)) < nI pl then (if (pn + p1) < (if (2 * (nI pl)) < 10000 then (2 * (nI pl)) else 10000) then (if (2 * (nI pl)) < 10000 then (2 * (nI pl)) else 10000) else (pn + p1)) else nI pl))))))] H41 := hP
    have hD : va_D A [(aP, .inr (5, [.ref r38, .int pn])), (bP, .inl (cL, pl, .inr (.inl pk))), (r38, .inl (cL, ((if (pn + p1) < (if (2 * (nI pl)) < 10000 then (2 * (nI pl)) else 10000) then (if (2 * (nI pl)) < 10000 then (2 * (nI pl)) else 10000) else (pn + p1)).toNatClampNeg), .inr (.inl (va_cpy pk (fun _ => 0) 0 0 (Int32.toNatClampNeg (if (if (pn + p1) < (if (2 * (nI pl)) < 10000 then (2 * (nI pl)) else 10000) then (if (2 * (nI pl)) < 10000 then (2 * (nI pl)) else 10000) else (pn + p1)) < nI pl then (if (pn + p1) < (if (2 * (nI pl)) < 10000 then (2 * (nI pl)) else 10000) then (if (2 * (nI pl)) < 10000 then (2 * (nI pl)) else 10000) else (pn + p1)) else nI pl))))))] := hD
    have hP9 := hP.sub (ws' := [(aP, .inr (5, [.ref r38, .int pn])), (r38, .inl (cL, ((if (pn + p1) < (if (2 * (nI pl)) < 10000 then (2 * (nI pl)) else 10000) then (if (2 * (nI pl)) < 10000 then (2 * (nI pl)) else 10000) else (pn + p1)).toNatClampNeg), .inr (.inl (va_cpy pk (fun _ => 0) 0 0 (Int32.toNatClampNeg (if (if (pn + p1) < (if (2 * (nI pl)) < 10000 then (2 * (nI pl)) else 10000) then (if (2 * (nI pl)) < 10000 then (2 * (nI pl)) else 10000) else (pn + p1)) < nI pl then (if (pn + p1) < (if (2 * (nI pl)) < 10000 then (2 * (nI pl)) else 10000) then (if (2 * (nI pl)) < 10000 then (2 * (nI pl)) else 10000) else (pn + p1)) else nI pl))))))]) [0, 2] rfl
    have hD9 := hD.sub (ws' := [(aP, .inr (5, [.ref r38, .int pn])), (r38, .inl (cL, ((if (pn + p1) < (if (2 * (nI pl)) < 10000 then (2 * (nI pl)) else 10000) then (if (2 * (nI pl)) < 10000 then (2 * (nI pl)) else 10000) else (pn + p1)).toNatClampNeg), .inr (.inl (va_cpy pk (fun _ => 0) 0 0 (Int32.toNatClampNeg (if (if (pn + p1) < (if (2 * (nI pl)) < 10000 then (2 * (nI pl)) else 10000) then (if (2 * (nI pl)) < 10000 then (2 * (nI pl)) else 10000) else (pn + p1)) < nI pl then (if (pn + p1) < (if (2 * (nI pl)) < 10000 then (2 * (nI pl)) else 10000) then (if (2 * (nI pl)) < 10000 then (2 * (nI pl)) else 10000) else (pn + p1)) else nI pl))))))]) [0, 2] (by decide) rfl
    refine W.widen (k := 1) (n := 10000) (by omega) (by omega) ?_
    exact W.vret hx hb hr (fun t ht hW => ⟨⟨(r38, (if (pn + p1) < (if (2 * (nI pl)) < 10000 then (2 * (nI pl)) else 10000) then (if (2 * (nI pl)) < 10000 then (2 * (nI pl)) else 10000) else (pn + p1)).toNatClampNeg, va_cpy pk (fun _ => 0) 0 0 (Int32.toNatClampNeg (if (if (pn + p1) < (if (2 * (nI pl)) < 10000 then (2 * (nI pl)) else 10000) then (if (2 * (nI pl)) < 10000 then (2 * (nI pl)) else 10000) else (pn + p1)) < nI pl then (if (pn + p1) < (if (2 * (nI pl)) < 10000 then (2 * (nI pl)) else 10000) then (if (2 * (nI pl)) < 10000 then (2 * (nI pl)) else 10000) else (pn + p1)) else nI pl))), rfl, by simp only [f_AcidPeaks_makeRoomFor, if_neg c13], by rw [ht]; exact hP9, hD9⟩, hS.F ht⟩) hS.2.2 d_AcidPeaks_makeRoomFor_44
theorem mk_spec {pn p1 : Int32} {pl pl2 : Nat} {pk pk2 : Nat → Int64} (hpl : pl ≤ 10000) (hs : vp_in (pn + p1) 10001) (w : f_AcidPeaks_makeRoomFor pn pl pk p1 = (pl2, pk2)) : pl2 ≤ 10000 ∧ (pn + p1).toInt ≤ (pl2 : Int) ∧ ∀ j, j < pl → pk2 j = pk j := by
  have hn := in_mk hs hpl
  have hs2 := vp_in_iff.mp hs
  unfold f_AcidPeaks_makeRoomFor at w
  by_cases c : pn + p1 ≤ nI pl
  · rw [if_pos c] at w
    cases w
    rw [Int32.le_iff_toInt_le, nI_toInt (by omega)] at c
    exact ⟨hpl, c, fun j _ => rfl⟩
  · rw [if_neg c] at w
    rw [Int32.le_iff_toInt_le, nI_toInt (by omega)] at c
    have hge : (pn + p1).toInt ≤ (if (pn + p1) < (if (2 * (nI pl)) < 10000 then (2 * (nI pl)) else 10000) then (if (2 * (nI pl)) < 10000 then (2 * (nI pl)) else 10000) else (pn + p1)).toInt := by
      rw [max_i]; omega
    generalize (if (pn + p1) < (if (2 * (nI pl)) < 10000 then (2 * (nI pl)) else 10000) then (if (2 * (nI pl)) < 10000 then (2 * (nI pl)) else 10000) else (pn + p1)) = x at w hn hge
    rw [vp_in_iff] at hn
    cases w
    have hx : x.toNatClampNeg = x.toInt.toNat := rfl
    have hm : ¬ x < nI pl := by rw [Int32.lt_iff_toInt_lt, nI_toInt (by omega)]; omega
    refine ⟨by omega, by omega, fun j hj => ?_⟩
    rw [if_neg hm, nI_clamp (by omega), pk_cpy_in (Nat.zero_le _) (by omega)]
    congr 1; omega
theorem mk_len {pn p1 : Int32} {pl pl2 : Nat} {pk pk2 : Nat → Int64} (hpl : pl ≤ 10000) (_ : vp_in pn 10001) (hs : vp_in (pn + p1) 10001) (w : f_AcidPeaks_makeRoomFor pn pl pk p1 = (pl2, pk2)) : pl2 ≤ 10000 := (mk_spec hpl hs w).1
theorem pa_pn {pn : Int32} {pl : Nat} {pk : Nat → Int64} {x : Int64} (h : vp_in pn 10001) (hpl : pl ≤ 10000) : vp_in (f_AcidPeaks_add pn pl pk x).1 10001 := by
  have h2 := vp_in_iff.mp h
  unfold f_AcidPeaks_add
  by_cases c : pn < nI pl
  · rw [if_pos c]
    rw [Int32.lt_iff_toInt_lt, nI_toInt (by omega)] at c
    have e : vp_in (pn + 1) 10001 := by
      rw [vp_in_iff, i_add] <;> rw [t_1] <;> omega
    split <;> exact e
  · rw [if_neg c]; exact h
theorem pm_pn {nm tc sb us mo pn nm' pn' : Int32} {cam gma he gi fl cam' gma' he' gi' fl' : Int64} {th tm tk tg rt nd od : Nat → Int32} {gr gv pk gr' gv' pk' : Nat → Int64} {pl : Nat} (h : vp_in pn 10001) (hpl : pl ≤ 10000)
    (w : f_DR_passMinute nm th tc tm tk tg sb cam gma gr rt us mo he gi fl nd gv od pn pl pk = (nm', cam', gma', gr', he', gi', fl', gv', pn', pk')) : vp_in pn' 10001 := by
  have h2 := congrArg (fun z => z.2.2.2.2.2.2.2.2.1) w
  have e : pn' = (f_AcidPeaks_add pn pl pk ((f_Tank_breakDown sb gma (f_DR_takeInTold nm th tc tm tk tg cam gr).2 rt).2.2 2)).1 := h2.symm
  rw [e]; exact pa_pn h hpl
def f_DR_run_L35 (th : Nat → Int32) (tc : Int32) (tm : Nat → Int32) (tk : Nat → Int32) (tg : Nat → Int32) (sb : Int32) (rt : Nat → Int32) (us : Int32) (mo : Int32) (nd : Nat → Int32) (od : Nat → Int32) (p1 : Int32) (pl_30 : Nat) : Nat → Int32 → Int32 → Int64 → Int64 → (Nat → Int64) → Int64 → Int64 → Int64 → (Nat → Int64) → Int32 → (Nat → Int64) → Int32 × Int32 × Int64 × Int64 × (Nat → Int64) × Int64 × Int64 × Int64 × (Nat → Int64) × Int32 × Nat × (Nat → Int64)
  | 0, _, _, _, _, _, _, _, _, _, _, _ => (0, 0, 0, 0, fun _ => 0, 0, 0, 0, fun _ => 0, 0, 0, fun _ => 0)
  | n + 1, iv, nm2, cam2, gma2, gr2, he2, gi2, fl2, gv2, pn2, pk2 => if p1 ≤ iv then ((nm2, nm2, cam2, gma2, gr2, he2, gi2, fl2, gv2, pn2, pl_30, pk2)) else (match f_DR_passMinute nm2 th tc tm tk tg sb cam2 gma2 gr2 rt us mo he2 gi2 fl2 nd gv2 od pn2 pl_30 pk2 with | (nm_41, cam_41, gma_41, gr_41, he_41, gi_41, fl_41, gv_41, pn_41, pk_41) => f_DR_run_L35 th tc tm tk tg sb rt us mo nd od p1 pl_30 n (iv + 1) nm_41 cam_41 gma_41 gr_41 he_41 gi_41 fl_41 gv_41 pn_41 pk_41)
def f_DR_run (nm : Int32) (th : Nat → Int32) (tc : Int32) (tm : Nat → Int32) (tk : Nat → Int32) (tg : Nat → Int32) (sb : Int32) (cam : Int64) (gma : Int64) (gr : Nat → Int64) (rt : Nat → Int32) (us : Int32) (mo : Int32) (he : Int64) (gi : Int64) (fl : Int64) (nd : Nat → Int32) (gv : Nat → Int64) (od : Nat → Int32) (pn : Int32) (pl : Nat) (pk : Nat → Int64) (p1 : Int32) : Int32 × Int32 × Int64 × Int64 × (Nat → Int64) × Int64 × Int64 × Int64 × (Nat → Int64) × Int32 × Nat × (Nat → Int64) := let r5 := f_DR_within p1 1 1000; if r5 = 0 then (((-1), nm, cam, gma, gr, he, gi, fl, gv, pn, pl, pk)) else (if (nm + p1) ≤ 10000 then (match f_AcidPeaks_makeRoomFor pn pl pk p1 with | (pl_30, pk_30) => f_DR_run_L35 th tc tm tk tg sb rt us mo nd od p1 pl_30 1001 0 nm cam gma gr he gi fl gv pn pk_30) else (((-1), nm, cam, gma, gr, he, gi, fl, gv, pn, pl, pk)))
abbrev rm_DR_run : Room := { frames := 4, cells := 1, slots := 10000, locals := 94 }
set_option maxHeartbeats 4000000 in
set_option maxRecDepth 100000 in
theorem c_DR_run (l : Launch) (dC : Nat → ClassId) (dI : Nat → Nat → Nat) (cI cL cZ : ClassId) (x0 aS aT aK aG aP aL bS bT1 bT2 bT3 bK1 bK2 bG1 bG2 bG3 bG4 bP : Nat) (sz : Nat) (nm : Int32) (th : Nat → Int32) (tc : Int32) (tm : Nat → Int32) (tk : Nat → Int32) (tg : Nat → Int32) (sb : Int32) (cam : Int64) (gma : Int64) (gr : Nat → Int64) (rt : Nat → Int32) (us : Int32) (mo : Int32) (he : Int64) (gi : Int64) (fl : Int64) (nd : Nat → Int32) (gv : Nat → Int64) (od : Nat → Int32) (pn : Int32) (pl : Nat) (pk : Nat → Int64) (p1 : Int32) (hc : vp_in tc 31) (htk : ∀ i, i < 30 → vp_in (tk i) 4) (hsb : ¬ sb = 0) (hus : vp_in us 5) (hod : ∀ i, i < 4 → vp_in (od i) 4) (hpn : vp_in pn 10001) (hpl : pl ≤ 10000) (hnm : vp_in nm 10001) (hpm : pn = nm) : Met l y_DR_run w_DR_run rm_DR_run (va_Pc [.ref x0, .int p1] (c_pre dC dI cI cL cZ [(x0, .inr (0, [.ref aS, .ref aT, .ref aK, .ref aG, .ref aP, .ref aL, .int nm])), (aS, .inr (1, [.ref bS])), (bS, .inl (cI, 12, .inl th)), (aT, .inr (2, [.ref bT1, .ref bT2, .ref bT3, .int tc])), (bT1, .inl (cI, 30, .inl tm)), (bT2, .inl (cI, 30, .inl tk)), (bT3, .inl (cI, 30, .inl tg)), (aK, .inr (3, [.ref bK1, .ref bK2, .int sb, .long cam, .long gma])), (bK1, .inl (cL, 4, .inr (.inl gr))), (bK2, .inl (cI, 3, .inl rt)), (aG, .inr (4, [.ref bG1, .ref bG2, .ref bG3, .ref bG4, .int us, .int mo, .long he, .long gi, .long fl])), (bG2, .inl (cI, 4, .inl nd)), (bG3, .inl (cL, 4, .inr (.inl gv))), (bG4, .inl (cI, 4, .inl od)), (aP, .inr (5, [.ref bP, .int pn])), (bP, .inl (cL, pl, .inr (.inl pk)))] sz)) (va_Qi (fun (r : Int32) (u : Nat × Int32 × Int64 × Int64 × (Nat → Int64) × Int64 × Int64 × Int64 × (Nat → Int64) × Int32 × Nat × (Nat → Int64)) => f_DR_run nm th tc tm tk tg sb cam gma gr rt us mo he gi fl nd gv od pn pl pk p1 = (r, (u.2.1, u.2.2.1, u.2.2.2.1, u.2.2.2.2.1, u.2.2.2.2.2.1, u.2.2.2.2.2.2.1, u.2.2.2.2.2.2.2.1, u.2.2.2.2.2.2.2.2.1, u.2.2.2.2.2.2.2.2.2.1, u.2.2.2.2.2.2.2.2.2.2.1, u.2.2.2.2.2.2.2.2.2.2.2))) (c_post dC dI (fun (u : Nat × Int32 × Int64 × Int64 × (Nat → Int64) × Int64 × Int64 × Int64 × (Nat → Int64) × Int32 × Nat × (Nat → Int64)) => [(x0, .inr (0, [.ref aS, .ref aT, .ref aK, .ref aG, .ref aP, .ref aL, .int u.2.1])), (aS, .inr (1, [.ref bS])), (bS, .inl (cI, 12, .inl th)), (aT, .inr (2, [.ref bT1, .ref bT2, .ref bT3, .int tc])), (bT1, .inl (cI, 30, .inl tm)), (bT2, .inl (cI, 30, .inl tk)), (bT3, .inl (cI, 30, .inl tg)), (aK, .inr (3, [.ref bK1, .ref bK2, .int sb, .long u.2.2.1, .long u.2.2.2.1])), (bK1, .inl (cL, 4, .inr (.inl u.2.2.2.2.1))), (bK2, .inl (cI, 3, .inl rt)), (aG, .inr (4, [.ref bG1, .ref bG2, .ref bG3, .ref bG4, .int us, .int mo, .long u.2.2.2.2.2.1, .long u.2.2.2.2.2.2.1, .long u.2.2.2.2.2.2.2.1])), (bG2, .inl (cI, 4, .inl nd)), (bG3, .inl (cL, 4, .inr (.inl u.2.2.2.2.2.2.2.2.1))), (bG4, .inl (cI, 4, .inl od)), (aP, .inr (5, [.ref u.1, .int u.2.2.2.2.2.2.2.2.2.1])), (u.1, .inl (cL, u.2.2.2.2.2.2.2.2.2.2.1, .inr (.inl u.2.2.2.2.2.2.2.2.2.2.2)))]) (va_A [(x0, .inr (0, [.ref aS, .ref aT, .ref aK, .ref aG, .ref aP, .ref aL, .int nm])), (aS, .inr (1, [.ref bS])), (bS, .inl (cI, 12, .inl th)), (aT, .inr (2, [.ref bT1, .ref bT2, .ref bT3, .int tc])), (bT1, .inl (cI, 30, .inl tm)), (bT2, .inl (cI, 30, .inl tk)), (bT3, .inl (cI, 30, .inl tg)), (aK, .inr (3, [.ref bK1, .ref bK2, .int sb, .long cam, .long gma])), (bK1, .inl (cL, 4, .inr (.inl gr))), (bK2, .inl (cI, 3, .inl rt)), (aG, .inr (4, [.ref bG1, .ref bG2, .ref bG3, .ref bG4, .int us, .int mo, .long he, .long gi, .long fl])), (bG2, .inl (cI, 4, .inl nd)), (bG3, .inl (cL, 4, .inr (.inl gv))), (bG4, .inl (cI, 4, .inl od)), (aP, .inr (5, [.ref bP, .int pn])), (bP, .inl (cL, pl, .inr (.inl pk)))] sz)) (va_A [(x0, .inr (0, [.ref aS, .ref aT, .ref aK, .ref aG, .ref aP, .ref aL, .int nm])), (aS, .inr (1, [.ref bS])), (bS, .inl (cI, 12, .inl th)), (aT, .inr (2, [.ref bT1, .ref bT2, .ref bT3, .int tc])), (bT1, .inl (cI, 30, .inl tm)), (bT2, .inl (cI, 30, .inl tk)), (bT3, .inl (cI, 30, .inl tg)), (aK, .inr (3, [.ref bK1, .ref bK2, .int sb, .long cam, .long gma])), (bK1, .inl (cL, 4, .inr (.inl gr))), (bK2, .inl (cI, 3, .inl rt)), (aG, .inr (4, [.ref bG1, .ref bG2, .ref bG3, .ref bG4, .int us, .int mo, .long he, .long gi, .long fl])), (bG2, .inl (cI, 4, .inl nd)), (bG3, .inl (cL, 4, .inr (.inl gv))), (bG4, .inl (cI, 4, .inl od)), (aP, .inr (5, [.ref bP, .int pn])), (bP, .inl (cL, pl, .inr (.inl pk)))] sz)) 1 10000 (va_A [(x0, .inr (0, [.ref aS, .ref aT, .ref aK, .ref aG, .ref aP, .ref aL, .int nm])), (aS, .inr (1, [.ref bS])), (bS, .inl (cI, 12, .inl th)), (aT, .inr (2, [.ref bT1, .ref bT2, .ref bT3, .int tc])), (bT1, .inl (cI, 30, .inl tm)), (bT2, .inl (cI, 30, .inl tk)), (bT3, .inl (cI, 30, .inl tg)), (aK, .inr (3, [.ref bK1, .ref bK2, .int sb, .long cam, .long gma])), (bK1, .inl (cL, 4, .inr (.inl gr))), (bK2, .inl (cI, 3, .inl rt)), (aG, .inr (4, [.ref bG1, .ref bG2, .ref bG3, .ref bG4, .int us, .int mo, .long he, .long gi, .long fl])), (bG2, .inl (cI, 4, .inl nd)), (bG3, .inl (cL, 4, .inr (.inl gv))), (bG4, .inl (cI, 4, .inl od)), (aP, .inr (5, [.ref bP, .int pn])), (bP, .inl (cL, pl, .inr (.inl pk)))] sz) := by
  refine Met.ofW (cc := b_DR_run) (maxL := 3) (ret := (some .int)) (by decide) rfl ?_
  intro p e s m args below meth c s₁ B hml hv
  obtain ⟨rfl, hsz, hP, hK, hN, hD0⟩ := hv
  have hx := B.exec
  have hb := B.bytes
  have hr := B.returns
  have hts := atoms_spec (ws := w_DR_run) B.pre
  have hown : s.vm.findClass R_DR = some m.cls := findClass_of_methodNamed B.named
  have hlocks := B.notSynchronized
  have hwg : ∀ w ∈ wg, w.before ([.ref x0, .int p1] : List Value).toArray s = true := fun w h => hts w (List.mem_cons_of_mem _ h)
  subst hsz
  have hD := hD0.self (sz := s.heap.size)
  generalize hAe : va_A [(x0, .inr (0, [.ref aS, .ref aT, .ref aK, .ref aG, .ref aP, .ref aL, .int nm])), (aS, .inr (1, [.ref bS])), (bS, .inl (cI, 12, .inl th)), (aT, .inr (2, [.ref bT1, .ref bT2, .ref bT3, .int tc])), (bT1, .inl (cI, 30, .inl tm)), (bT2, .inl (cI, 30, .inl tk)), (bT3, .inl (cI, 30, .inl tg)), (aK, .inr (3, [.ref bK1, .ref bK2, .int sb, .long cam, .long gma])), (bK1, .inl (cL, 4, .inr (.inl gr))), (bK2, .inl (cI, 3, .inl rt)), (aG, .inr (4, [.ref bG1, .ref bG2, .ref bG3, .ref bG4, .int us, .int mo, .long he, .long gi, .long fl])), (bG2, .inl (cI, 4, .inl nd)), (bG3, .inl (cL, 4, .inr (.inl gv))), (bG4, .inl (cI, 4, .inl od)), (aP, .inr (5, [.ref bP, .int pn])), (bP, .inl (cL, pl, .inr (.inl pk)))] s.heap.size = A at hD ⊢
  have hA : ∀ q : Nat, s.heap.size ≤ q → A q := fun q h => by rw [← hAe]; exact Or.inr h
  have hS : va_S A s.heap s.heap [] := va_S.rf
  have hP : va_P (dC, dI) vwCl [(x0, .inr (0, [.ref aS, .ref aT, .ref aK, .ref aG, .ref aP, .ref aL, .int nm])), (aS, .inr (1, [.ref bS])), (bS, .inl (cI, 12, .inl th)), (aT, .inr (2, [.ref bT1, .ref bT2, .ref bT3, .int tc])), (bT1, .inl (cI, 30, .inl tm)), (bT2, .inl (cI, 30, .inl tk)), (bT3, .inl (cI, 30, .inl tg)), (aK, .inr (3, [.ref bK1, .ref bK2, .int sb, .long cam, .long gma])), (bK1, .inl (cL, 4, .inr (.inl gr))), (bK2, .inl (cI, 3, .inl rt)), (aG, .inr (4, [.ref bG1, .ref bG2, .ref bG3, .ref bG4, .int us, .int mo, .long he, .long gi, .long fl])), (bG2, .inl (cI, 4, .inl nd)), (bG3, .inl (cL, 4, .inr (.inl gv))), (bG4, .inl (cI, 4, .inl od)), (aP, .inr (5, [.ref bP, .int pn])), (bP, .inl (cL, pl, .inr (.inl pk)))] s.heap := hP
  have hl := lv_entry ([.ref x0, .int p1]) (n := 3) (Nat.le_of_ble_eq_true rfl)
  rw [lg_entry_eq]
  generalize (lg_sl ([.ref x0, .int p1]) ++ List.replicate (3 - (lg_sl ([.ref x0, .int p1])).length) Slot.unset).toArray = ls at hl ⊢
  have hl : lv_has ls 3 [(0, .ref x0), (1, .int p1)] := hl
  refine lv_iload_n hx hb d_DR_run_0 rfl (lv_at hl 1 rfl) ?_
  refine lv_iconst (v := 1) hx hb d_DR_run_1 (by decide) ?_
  refine lv_sipush (v := 1000) hx hb d_DR_run_2 (by decide) ?_
  have hPc := hP.sub (ws' := []) [] rfl
  have hDc := hD.sub (ws' := []) [] (by decide) rfl
  refine k_calli hP hD hS hA [] [0, 1, 2, 3, 4, 5, 6, 7, 8, 9, 10, 11, 12, 13, 14, 15] (wc := []) (wr := [(x0, .inr (0, [.ref aS, .ref aT, .ref aK, .ref aG, .ref aP, .ref aL, .int nm])), (aS, .inr (1, [.ref bS])), (bS, .inl (cI, 12, .inl th)), (aT, .inr (2, [.ref bT1, .ref bT2, .ref bT3, .int tc])), (bT1, .inl (cI, 30, .inl tm)), (bT2, .inl (cI, 30, .inl tk)), (bT3, .inl (cI, 30, .inl tg)), (aK, .inr (3, [.ref bK1, .ref bK2, .int sb, .long cam, .long gma])), (bK1, .inl (cL, 4, .inr (.inl gr))), (bK2, .inl (cI, 3, .inl rt)), (aG, .inr (4, [.ref bG1, .ref bG2, .ref bG3, .ref bG4, .int us, .int mo, .long he, .long gi, .long fl])), (bG2, .inl (cI, 4, .inl nd)), (bG3, .inl (cL, 4, .inr (.inl gv))), (bG4, .inl (cI, 4, .inl od)), (aP, .inr (5, [.ref bP, .int pn])), (bP, .inl (cL, pl, .inr (.inl pk)))]) rfl rfl (by decide) (by decide) (va_runS (As := [.int p1, .int 1, .int 1000]) (rest := []) ⟨hx, hb, hml, hown, hwg⟩ (c_DR_within l dC dI cI cL cZ s.heap.size p1 1 1000) (va_cwS 3 hwg (g_S kw_106 kw_107 kw_14 kw_108) rfl rfl rfl (by decide +kernel) ⟨Nat.le_of_ble_eq_true rfl, Nat.le_of_ble_eq_true rfl⟩) ⟨c_pre_call, c_pre_mk hPc hDc hK hN _⟩ rfl rfl hl.1 rfl (lv_room (Nat.le_of_ble_eq_true rfl)) d_DR_run_5 ⟨Nat.le_of_ble_eq_true rfl, Nat.le_of_ble_eq_true rfl⟩) (fun r5 u H5 locs w5 hz1 hP hD hS => ?_)
  have hP := hP.sub (ws' := [(x0, .inr (0, [.ref aS, .ref aT, .ref aK, .ref aG, .ref aP, .ref aL, .int nm])), (aS, .inr (1, [.ref bS])), (bS, .inl (cI, 12, .inl th)), (aT, .inr (2, [.ref bT1, .ref bT2, .ref bT3, .int tc])), (bT1, .inl (cI, 30, .inl tm)), (bT2, .inl (cI, 30, .inl tk)), (bT3, .inl (cI, 30, .inl tg)), (aK, .inr (3, [.ref bK1, .ref bK2, .int sb, .long cam, .long gma])), (bK1, .inl (cL, 4, .inr (.inl gr))), (bK2, .inl (cI, 3, .inl rt)), (aG, .inr (4, [.ref bG1, .ref bG2, .ref bG3, .ref bG4, .int us, .int mo, .long he, .long gi, .long fl])), (bG2, .inl (cI, 4, .inl nd)), (bG3, .inl (cL, 4, .inr (.inl gv))), (bG4, .inl (cI, 4, .inl od)), (aP, .inr (5, [.ref bP, .int pn])), (bP, .inl (cL, pl, .inr (.inl pk)))]) [0, 1, 2, 3, 4, 5, 6, 7, 8, 9, 10, 11, 12, 13, 14, 15] rfl
  have hD := hD.sub (ws' := [(x0, .inr (0, [.ref aS, .ref aT, .ref aK, .ref aG, .ref aP, .ref aL, .int nm])), (aS, .inr (1, [.ref bS])), (bS, .inl (cI, 12, .inl th)), (aT, .inr (2, [.ref bT1, .ref bT2, .ref bT3, .int tc])), (bT1, .inl (cI, 30, .inl tm)), (bT2, .inl (cI, 30, .inl tk)), (bT3, .inl (cI, 30, .inl tg)), (aK, .inr (3, [.ref bK1, .ref bK2, .int sb, .long cam, .long gma])), (bK1, .inl (cL, 4, .inr (.inl gr))), (bK2, .inl (cI, 3, .inl rt)), (aG, .inr (4, [.ref bG1, .ref bG2, .ref bG3, .ref bG4, .int us, .int mo, .long he, .long gi, .long fl])), (bG2, .inl (cI, 4, .inl nd)), (bG3, .inl (cL, 4, .inr (.inl gv))), (bG4, .inl (cI, 4, .inl od)), (aP, .inr (5, [.ref bP, .int pn])), (bP, .inl (cL, pl, .inr (.inl pk)))]) [0, 1, 2, 3, 4, 5, 6, 7, 8, 9, 10, 11, 12, 13, 14, 15] (by decide) rfl
  refine lv_if_eq (tgt := 23) hx hb d_DR_run_8 (by decide) (fun (c8 : r5 = 0) => ?_) (fun (c8 : ¬ (r5 = 0)) => ?_)
  · refine lv_iconst (v := (-1)) hx hb d_DR_run_23 (by decide) ?_
    have hP9 := hP.sub (ws' := [(x0, .inr (0, [.ref aS, .ref aT, .ref aK, .ref aG, .ref aP, .ref aL, .int nm])), (aS, .inr (1, [.ref bS])), (bS, .inl (cI, 12, .inl th)), (aT, .inr (2, [.ref bT1, .ref bT2, .ref bT3, .int tc])), (bT1, .inl (cI, 30, .inl tm)), (bT2, .inl (cI, 30, .inl tk)), (bT3, .inl (cI, 30, .inl tg)), (aK, .inr (3, [.ref bK1, .ref bK2, .int sb, .long cam, .long gma])), (bK1, .inl (cL, 4, .inr (.inl gr))), (bK2, .inl (cI, 3, .inl rt)), (aG, .inr (4, [.ref bG1, .ref bG2, .ref bG3, .ref bG4, .int us, .int mo, .long he, .long gi, .long fl])), (bG2, .inl (cI, 4, .inl nd)), (bG3, .inl (cL, 4, .inr (.inl gv))), (bG4, .inl (cI, 4, .inl od)), (aP, .inr (5, [.ref bP, .int pn])), (bP, .inl (cL, pl, .inr (.inl pk)))]) [0, 1, 2, 3, 4, 5, 6, 7, 8, 9, 10, 11, 12, 13, 14, 15] rfl
    have hD9 := hD.sub (ws' := [(x0, .inr (0, [.ref aS, .ref aT, .ref aK, .ref aG, .ref aP, .ref aL, .int nm])), (aS, .inr (1, [.ref bS])), (bS, .inl (cI, 12, .inl th)), (aT, .inr (2, [.ref bT1, .ref bT2, .ref bT3, .int tc])), (bT1, .inl (cI, 30, .inl tm)), (bT2, .inl (cI, 30, .inl tk)), (bT3, .inl (cI, 30, .inl tg)), (aK, .inr (3, [.ref bK1, .ref bK2, .int sb, .long cam, .long gma])), (bK1, .inl (cL, 4, .inr (.inl gr))), (bK2, .inl (cI, 3, .inl rt)), (aG, .inr (4, [.ref bG1, .ref bG2, .ref bG3, .ref bG4, .int us, .int mo, .long he, .long gi, .long fl])), (bG2, .inl (cI, 4, .inl nd)), (bG3, .inl (cL, 4, .inr (.inl gv))), (bG4, .inl (cI, 4, .inl od)), (aP, .inr (5, [.ref bP, .int pn])), (bP, .inl (cL, pl, .inr (.inl pk)))]) [0, 1, 2, 3, 4, 5, 6, 7, 8, 9, 10, 11, 12, 13, 14, 15] (by decide) rfl
    refine W.widen (k := 1) (n := 10000) (by decide) (by decide) ?_
    exact W.iret (v := (-1)) hx hb hr (fun t ht hW => ⟨⟨(-1), (bP, nm, cam, gma, gr, he, gi, fl, gv, pn, pl, pk), rfl, by simp only [f_DR_run, w5, if_pos c8], by rw [ht]; exact hP9, hD9⟩, hS.F ht⟩) hS.2.2 d_DR_run_24
  · refine lv_aload_n hx hb d_DR_run_11 rfl (lv_at hl 0 rfl) ?_
    refine va_get (D := (dC, dI)) (ci := 0) (v := .int nm) (C := R_DR) (T := F_DR) (N := 7) hx hb hwg iu_DR hown hK hP 0 rfl rfl 6 (by decide) (hwg _ kw_98) (fun _ h9 => h9) rfl d_DR_run_12 ?_
    refine lv_iload_n hx hb d_DR_run_15 rfl (lv_at hl 1 rfl) ?_
    refine lv_iadd hx hb d_DR_run_16 ?_
    refine lv_sipush (v := 10000) hx hb d_DR_run_17 (by decide) ?_
    refine lv_icmp_le (tgt := 25) hx hb d_DR_run_20 (by decide) (fun (c20 : (nm + p1) ≤ 10000) => ?_) (fun (c20 : ¬ ((nm + p1) ≤ 10000)) => ?_)
    · refine lv_aload_n hx hb d_DR_run_25 rfl (lv_at hl 0 rfl) ?_
      refine va_get (D := (dC, dI)) (ci := 0) (v := .ref aP) (C := R_DR) (T := F_DR) (N := 7) hx hb hwg iu_DR hown hK hP 0 rfl rfl 4 (by decide) (hwg _ kw_96) (fun _ h9 => h9) rfl d_DR_run_26 ?_
      refine lv_iload_n hx hb d_DR_run_29 rfl (lv_at hl 1 rfl) ?_
      have hPc := hP.sub (ws' := [(aP, .inr (5, [.ref bP, .int pn])), (bP, .inl (cL, pl, .inr (.inl pk)))]) [14, 15] rfl
      have hDc := hD.sub (ws' := [(aP, .inr (5, [.ref bP, .int pn])), (bP, .inl (cL, pl, .inr (.inl pk)))]) [14, 15] (by decide) rfl
      refine k_callv hP hD hS hA [14, 15] [0, 1, 2, 3, 4, 5, 6, 7, 8, 9, 10, 11, 12, 13] (wc := [(aP, .inr (5, [.ref bP, .int pn])), (bP, .inl (cL, pl, .inr (.inl pk)))]) (wr := [(x0, .inr (0, [.ref aS, .ref aT, .ref aK, .ref aG, .ref aP, .ref aL, .int nm])), (aS, .inr (1, [.ref bS])), (bS, .inl (cI, 12, .inl th)), (aT, .inr (2, [.ref bT1, .ref bT2, .ref bT3, .int tc])), (bT1, .inl (cI, 30, .inl tm)), (bT2, .inl (cI, 30, .inl tk)), (bT3, .inl (cI, 30, .inl tg)), (aK, .inr (3, [.ref bK1, .ref bK2, .int sb, .long cam, .long gma])), (bK1, .inl (cL, 4, .inr (.inl gr))), (bK2, .inl (cI, 3, .inl rt)), (aG, .inr (4, [.ref bG1, .ref bG2, .ref bG3, .ref bG4, .int us, .int mo, .long he, .long gi, .long fl])), (bG2, .inl (cI, 4, .inl nd)), (bG3, .inl (cL, 4, .inr (.inl gv))), (bG4, .inl (cI, 4, .inl od))]) rfl rfl (by decide) (by decide) (va_runV (As := [.int p1]) (rest := []) ⟨hx, hb, hml, hown, hwg⟩ (c_AcidPeaks_makeRoomFor l dC dI cI cL cZ aP bP H5.size pn pl pk p1 (by first | assumption | decide | omega) (by first | assumption | decide | omega) (in_w1000 w5 c8) (in_run hnm hpm w5 c8 c20)) (cwV 1 hwg (g_V kw_169 kw_170 kw_171 kw_19 kw_172) rfl rfl rfl (by decide +kernel) ⟨Nat.le_of_ble_eq_true rfl, Nat.le_of_ble_eq_true rfl⟩) ⟨c_pre_call, va_recv hK hPc (ci := 5) (q0 := 0) rfl rfl, c_pre_mk hPc hDc hK hN _⟩ rfl rfl hl.1 rfl (lv_room (Nat.le_of_ble_eq_true rfl)) d_DR_run_30 ⟨Nat.le_of_ble_eq_true rfl, Nat.le_of_ble_eq_true rfl⟩) (fun u H30 locs w30 hz1 hP hD hS => ?_)
      obtain ⟨bQ_30, pl_30, pk_30⟩ := u
      have hP := hP.sub (ws' := [(x0, .inr (0, [.ref aS, .ref aT, .ref aK, .ref aG, .ref aP, .ref aL, .int nm])), (aS, .inr (1, [.ref bS])), (bS, .inl (cI, 12, .inl th)), (aT, .inr (2, [.ref bT1, .ref bT2, .ref bT3, .int tc])), (bT1, .inl (cI, 30, .inl tm)), (bT2, .inl (cI, 30, .inl tk)), (bT3, .inl (cI, 30, .inl tg)), (aK, .inr (3, [.ref bK1, .ref bK2, .int sb, .long cam, .long gma])), (bK1, .inl (cL, 4, .inr (.inl gr))), (bK2, .inl (cI, 3, .inl rt)), (aG, .inr (4, [.ref bG1, .ref bG2, .ref bG3, .ref bG4, .int us, .int mo, .long he, .long gi, .long fl])), (bG2, .inl (cI, 4, .inl nd)), (bG3, .inl (cL, 4, .inr (.inl gv))), (bG4, .inl (cI, 4, .inl od)), (aP, .inr (5, [.ref bQ_30, .int pn])), (bQ_30, .inl (cL, pl_30, .inr (.inl pk_30)))]) [0, 1, 2, 3, 4, 5, 6, 7, 8, 9, 10, 11, 12, 13, 14, 15] rfl
      have hD := hD.sub (ws' := [(x0, .inr (0, [.ref aS, .ref aT, .ref aK, .ref aG, .ref aP, .ref aL, .int nm])), (aS, .inr (1, [.ref bS])), (bS, .inl (cI, 12, .inl th)), (aT, .inr (2, [.ref bT1, .ref bT2, .ref bT3, .int tc])), (bT1, .inl (cI, 30, .inl tm)), (bT2, .inl (cI, 30, .inl tk)), (bT3, .inl (cI, 30, .inl tg)), (aK, .inr (3, [.ref bK1, .ref bK2, .int sb, .long cam, .long gma])), (bK1, .inl (cL, 4, .inr (.inl gr))), (bK2, .inl (cI, 3, .inl rt)), (aG, .inr (4, [.ref bG1, .ref bG2, .ref bG3, .ref bG4, .int us, .int mo, .long he, .long gi, .long fl])), (bG2, .inl (cI, 4, .inl nd)), (bG3, .inl (cL, 4, .inr (.inl gv))), (bG4, .inl (cI, 4, .inl od)), (aP, .inr (5, [.ref bQ_30, .int pn])), (bQ_30, .inl (cL, pl_30, .inr (.inl pk_30)))]) [0, 1, 2, 3, 4, 5, 6, 7, 8, 9, 10, 11, 12, 13, 14, 15] (by decide) rfl
      have hpl2 := mk_len hpl hpn (in_run hnm hpm w5 c8 c20) w30
      refine lv_iconst (v := 0) hx hb d_DR_run_33 (by decide) ?_
      refine lv_istore_n (lv' := [(2, .int 0), (0, .ref x0), (1, .int p1)]) hx hb d_DR_run_34 rfl hl (by decide) rfl (fun ls hl => ?_)
      have loop35 : ∀ (n35 : Nat) (iv : Int32) (nm2 : Int32) (cam2 : Int64) (gma2 : Int64) (gr2 : Nat → Int64) (he2 : Int64) (gi2 : Int64) (fl2 : Int64) (gv2 : Nat → Int64) (pn2 : Int32) (pk2 : Nat → Int64) (H35 : Heap) (locs : List Loc) (ls : Array Slot), 1000 - iv.toNatClampNeg < n35 → (vp_in iv 1001) → (vp_in pn2 10001) → f_DR_run nm th tc tm tk tg sb cam gma gr rt us mo he gi fl nd gv od pn pl pk p1 = f_DR_run_L35 th tc tm tk tg sb rt us mo nd od p1 pl_30 n35 iv nm2 cam2 gma2 gr2 he2 gi2 fl2 gv2 pn2 pk2 → va_P (dC, dI) vwCl [(x0, .inr (0, [.ref aS, .ref aT, .ref aK, .ref aG, .ref aP, .ref aL, .int nm2])), (aS, .inr (1, [.ref bS])), (bS, .inl (cI, 12, .inl th)), (aT, .inr (2, [.ref bT1, .ref bT2, .ref bT3, .int tc])), (bT1, .inl (cI, 30, .inl tm)), (bT2, .inl (cI, 30, .inl tk)), (bT3, .inl (cI, 30, .inl tg)), (aK, .inr (3, [.ref bK1, .ref bK2, .int sb, .long cam2, .long gma2])), (bK1, .inl (cL, 4, .inr (.inl gr2))), (bK2, .inl (cI, 3, .inl rt)), (aG, .inr (4, [.ref bG1, .ref bG2, .ref bG3, .ref bG4, .int us, .int mo, .long he2, .long gi2, .long fl2])), (bG2, .inl (cI, 4, .inl nd)), (bG3, .inl (cL, 4, .inr (.inl gv2))), (bG4, .inl (cI, 4, .inl od)), (aP, .inr (5, [.ref bQ_30, .int pn2])), (bQ_30, .inl (cL, pl_30, .inr (.inl pk2)))] H35 → va_D A [(x0, .inr (0, [.ref aS, .ref aT, .ref aK, .ref aG, .ref aP, .ref aL, .int nm2])), (aS, .inr (1, [.ref bS])), (bS, .inl (cI, 12, .inl th)), (aT, .inr (2, [.ref bT1, .ref bT2, .ref bT3, .int tc])), (bT1, .inl (cI, 30, .inl tm)), (bT2, .inl (cI, 30, .inl tk)), (bT3, .inl (cI, 30, .inl tg)), (aK, .inr (3, [.ref bK1, .ref bK2, .int sb, .long cam2, .long gma2])), (bK1, .inl (cL, 4, .inr (.inl gr2))), (bK2, .inl (cI, 3, .inl rt)), (aG, .inr (4, [.ref bG1, .ref bG2, .ref bG3, .ref bG4, .int us, .int mo, .long he2, .long gi2, .long fl2])), (bG2, .inl (cI, 4, .inl nd)), (bG3, .inl (cL, 4, .inr (.inl gv2))), (bG4, .inl (cI, 4, .inl od)), (aP, .inr (5, [.ref bQ_30, .int pn2])), (bQ_30, .inl (cL, pl_30, .inr (.inl pk2)))] → va_S A s.heap H35 locs → lv_has ls 3 [(0, .ref x0), (1, .int p1), (2, .int iv)] → W p l e (headSpec w_DR_run rm_DR_run).room s m ([.ref x0, .int p1] : List Value).toArray below meth c H35 locs 1 10000 (MQ below (va_Qi (fun (r : Int32) (u : Nat × Int32 × Int64 × Int64 × (Nat → Int64) × Int64 × Int64 × Int64 × (Nat → Int64) × Int32 × Nat × (Nat → Int64)) => f_DR_run nm th tc tm tk tg sb cam gma gr rt us mo he gi fl nd gv od pn pl pk p1 = (r, (u.2.1, u.2.2.1, u.2.2.2.1, u.2.2.2.2.1, u.2.2.2.2.2.1, u.2.2.2.2.2.2.1, u.2.2.2.2.2.2.2.1, u.2.2.2.2.2.2.2.2.1, u.2.2.2.2.2.2.2.2.2.1, u.2.2.2.2.2.2.2.2.2.2.1, u.2.2.2.2.2.2.2.2.2.2.2))) (c_post dC dI (fun (u : Nat × Int32 × Int64 × Int64 × (Nat → Int64) × Int64 × Int64 × Int64 × (Nat → Int64) × Int32 × Nat × (Nat → Int64)) => [(x0, .inr (0, [.ref aS, .ref aT, .ref aK, .ref aG, .ref aP, .ref aL, .int u.2.1])), (aS, .inr (1, [.ref bS])), (bS, .inl (cI, 12, .inl th)), (aT, .inr (2, [.ref bT1, .ref bT2, .ref bT3, .int tc])), (bT1, .inl (cI, 30, .inl tm)), (bT2, .inl (cI, 30, .inl tk)), (bT3, .inl (cI, 30, .inl tg)), (aK, .inr (3, [.ref bK1, .ref bK2, .int sb, .long u.2.2.1, .long u.2.2.2.1])), (bK1, .inl (cL, 4, .inr (.inl u.2.2.2.2.1))), (bK2, .inl (cI, 3, .inl rt)), (aG, .inr (4, [.ref bG1, .ref bG2, .ref bG3, .ref bG4, .int us, .int mo, .long u.2.2.2.2.2.1, .long u.2.2.2.2.2.2.1, .long u.2.2.2.2.2.2.2.1])), (bG2, .inl (cI, 4, .inl nd)), (bG3, .inl (cL, 4, .inr (.inl u.2.2.2.2.2.2.2.2.1))), (bG4, .inl (cI, 4, .inl od)), (aP, .inr (5, [.ref u.1, .int u.2.2.2.2.2.2.2.2.2.1])), (u.1, .inl (cL, u.2.2.2.2.2.2.2.2.2.2.1, .inr (.inl u.2.2.2.2.2.2.2.2.2.2.2)))]) A) A) ([.ref x0, .int p1] : List Value).toArray s 1 10000 A) (F0 m 35 ls []) := by
        intro n35
        induction n35 with
        | zero => intro iv nm2 cam2 gma2 gr2 he2 gi2 fl2 gv2 pn2 pk2 H35 locs ls hm; exact absurd hm (Nat.not_lt_zero _)
        | succ n35 ih35 =>
          intro iv nm2 cam2 gma2 gr2 he2 gi2 fl2 gv2 pn2 pk2 H35 locs ls hm35 hiv hpn2 hF35 hP hD hS hl
          refine lv_iload_n hx hb d_DR_run_35 rfl (lv_at hl 2 rfl) ?_
          refine lv_iload_n hx hb d_DR_run_36 rfl (lv_at hl 1 rfl) ?_
          refine lv_icmp_ge (tgt := 50) hx hb d_DR_run_37 (by decide) (fun (c37 : p1 ≤ iv) => ?_) (fun (c37 : ¬ (p1 ≤ iv)) => ?_)
          · refine lv_aload_n hx hb d_DR_run_50 rfl (lv_at hl 0 rfl) ?_
            refine va_get (D := (dC, dI)) (ci := 0) (v := .int nm2) (C := R_DR) (T := F_DR) (N := 7) hx hb hwg iu_DR hown hK hP 0 rfl rfl 6 (by decide) (hwg _ kw_98) (fun _ h9 => h9) rfl d_DR_run_51 ?_
            have hP9 := hP.sub (ws' := [(x0, .inr (0, [.ref aS, .ref aT, .ref aK, .ref aG, .ref aP, .ref aL, .int nm2])), (aS, .inr (1, [.ref bS])), (bS, .inl (cI, 12, .inl th)), (aT, .inr (2, [.ref bT1, .ref bT2, .ref bT3, .int tc])), (bT1, .inl (cI, 30, .inl tm)), (bT2, .inl (cI, 30, .inl tk)), (bT3, .inl (cI, 30, .inl tg)), (aK, .inr (3, [.ref bK1, .ref bK2, .int sb, .long cam2, .long gma2])), (bK1, .inl (cL, 4, .inr (.inl gr2))), (bK2, .inl (cI, 3, .inl rt)), (aG, .inr (4, [.ref bG1, .ref bG2, .ref bG3, .ref bG4, .int us, .int mo, .long he2, .long gi2, .long fl2])), (bG2, .inl (cI, 4, .inl nd)), (bG3, .inl (cL, 4, .inr (.inl gv2))), (bG4, .inl (cI, 4, .inl od)), (aP, .inr (5, [.ref bQ_30, .int pn2])), (bQ_30, .inl (cL, pl_30, .inr (.inl pk2)))]) [0, 1, 2, 3, 4, 5, 6, 7, 8, 9, 10, 11, 12, 13, 14, 15] rfl
            have hD9 := hD.sub (ws' := [(x0, .inr (0, [.ref aS, .ref aT, .ref aK, .ref aG, .ref aP, .ref aL, .int nm2])), (aS, .inr (1, [.ref bS])), (bS, .inl (cI, 12, .inl th)), (aT, .inr (2, [.ref bT1, .ref bT2, .ref bT3, .int tc])), (bT1, .inl (cI, 30, .inl tm)), (bT2, .inl (cI, 30, .inl tk)), (bT3, .inl (cI, 30, .inl tg)), (aK, .inr (3, [.ref bK1, .ref bK2, .int sb, .long cam2, .long gma2])), (bK1, .inl (cL, 4, .inr (.inl gr2))), (bK2, .inl (cI, 3, .inl rt)), (aG, .inr (4, [.ref bG1, .ref bG2, .ref bG3, .ref bG4, .int us, .int mo, .long he2, .long gi2, .long fl2])), (bG2, .inl (cI, 4, .inl nd)), (bG3, .inl (cL, 4, .inr (.inl gv2))), (bG4, .inl (cI, 4, .inl od)), (aP, .inr (5, [.ref bQ_30, .int pn2])), (bQ_30, .inl (cL, pl_30, .inr (.inl pk2)))]) [0, 1, 2, 3, 4, 5, 6, 7, 8, 9, 10, 11, 12, 13, 14, 15] (by decide) rfl
            refine W.widen (k := 1) (n := 10000) (by decide) (by decide) ?_
            exact W.iret (v := nm2) hx hb hr (fun t ht hW => ⟨⟨nm2, (bQ_30, nm2, cam2, gma2, gr2, he2, gi2, fl2, gv2, pn2, pl_30, pk2), rfl, by rw [hF35]; simp only [f_DR_run_L35, if_pos c37], by rw [ht]; exact hP9, hD9⟩, hS.F ht⟩) hS.2.2 d_DR_run_54
          · refine lv_aload_n hx hb d_DR_run_40 rfl (lv_at hl 0 rfl) ?_
            have hPc := hP.sub (ws' := [(x0, .inr (0, [.ref aS, .ref aT, .ref aK, .ref aG, .ref aP, .ref aL, .int nm2])), (aS, .inr (1, [.ref bS])), (bS, .inl (cI, 12, .inl th)), (aT, .inr (2, [.ref bT1, .ref bT2, .ref bT3, .int tc])), (bT1, .inl (cI, 30, .inl tm)), (bT2, .inl (cI, 30, .inl tk)), (bT3, .inl (cI, 30, .inl tg)), (aK, .inr (3, [.ref bK1, .ref bK2, .int sb, .long cam2, .long gma2])), (bK1, .inl (cL, 4, .inr (.inl gr2))), (bK2, .inl (cI, 3, .inl rt)), (aG, .inr (4, [.ref bG1, .ref bG2, .ref bG3, .ref bG4, .int us, .int mo, .long he2, .long gi2, .long fl2])), (bG2, .inl (cI, 4, .inl nd)), (bG3, .inl (cL, 4, .inr (.inl gv2))), (bG4, .inl (cI, 4, .inl od)), (aP, .inr (5, [.ref bQ_30, .int pn2])), (bQ_30, .inl (cL, pl_30, .inr (.inl pk2)))]) [0, 1, 2, 3, 4, 5, 6, 7, 8, 9, 10, 11, 12, 13, 14, 15] rfl
            have hDc := hD.sub (ws' := [(x0, .inr (0, [.ref aS, .ref aT, .ref aK, .ref aG, .ref aP, .ref aL, .int nm2])), (aS, .inr (1, [.ref bS])), (bS, .inl (cI, 12, .inl th)), (aT, .inr (2, [.ref bT1, .ref bT2, .ref bT3, .int tc])), (bT1, .inl (cI, 30, .inl tm)), (bT2, .inl (cI, 30, .inl tk)), (bT3, .inl (cI, 30, .inl tg)), (aK, .inr (3, [.ref bK1, .ref bK2, .int sb, .long cam2, .long gma2])), (bK1, .inl (cL, 4, .inr (.inl gr2))), (bK2, .inl (cI, 3, .inl rt)), (aG, .inr (4, [.ref bG1, .ref bG2, .ref bG3, .ref bG4, .int us, .int mo, .long he2, .long gi2, .long fl2])), (bG2, .inl (cI, 4, .inl nd)), (bG3, .inl (cL, 4, .inr (.inl gv2))), (bG4, .inl (cI, 4, .inl od)), (aP, .inr (5, [.ref bQ_30, .int pn2])), (bQ_30, .inl (cL, pl_30, .inr (.inl pk2)))]) [0, 1, 2, 3, 4, 5, 6, 7, 8, 9, 10, 11, 12, 13, 14, 15] (by decide) rfl
            refine k_callv hP hD hS hA [0, 1, 2, 3, 4, 5, 6, 7, 8, 9, 10, 11, 12, 13, 14, 15] [] (wc := [(x0, .inr (0, [.ref aS, .ref aT, .ref aK, .ref aG, .ref aP, .ref aL, .int nm2])), (aS, .inr (1, [.ref bS])), (bS, .inl (cI, 12, .inl th)), (aT, .inr (2, [.ref bT1, .ref bT2, .ref bT3, .int tc])), (bT1, .inl (cI, 30, .inl tm)), (bT2, .inl (cI, 30, .inl tk)), (bT3, .inl (cI, 30, .inl tg)), (aK, .inr (3, [.ref bK1, .ref bK2, .int sb, .long cam2, .long gma2])), (bK1, .inl (cL, 4, .inr (.inl gr2))), (bK2, .inl (cI, 3, .inl rt)), (aG, .inr (4, [.ref bG1, .ref bG2, .ref bG3, .ref bG4, .int us, .int mo, .long he2, .long gi2, .long fl2])), (bG2, .inl (cI, 4, .inl nd)), (bG3, .inl (cL, 4, .inr (.inl gv2))), (bG4, .inl (cI, 4, .inl od)), (aP, .inr (5, [.ref bQ_30, .int pn2])), (bQ_30, .inl (cL, pl_30, .inr (.inl pk2)))]) (wr := []) rfl rfl (by decide) (by decide) (va_runV (As := []) (rest := []) ⟨hx, hb, hml, hown, hwg⟩ (c_DR_passMinute l dC dI cI cL cZ x0 aS aT aK aG aP aL bS bT1 bT2 bT3 bK1 bK2 bG1 bG2 bG3 bG4 bQ_30 H35.size nm2 th tc tm tk tg sb cam2 gma2 gr2 rt us mo he2 gi2 fl2 nd gv2 od pn2 pl_30 pk2 (by first | assumption | decide | omega) (by first | assumption | decide | omega) (by first | assumption | decide | omega) (by first | assumption | decide | omega) (by first | assumption | decide | omega) hpn2 hpl2) (cwV 0 hwg (g_V kw_187 kw_188 kw_0 kw_14 kw_189) rfl rfl rfl (by decide +kernel) ⟨Nat.le_of_ble_eq_true rfl, Nat.le_of_ble_eq_true rfl⟩) ⟨c_pre_call, va_recv hK hPc (ci := 0) (q0 := 0) rfl rfl, c_pre_mk hPc hDc hK hN _⟩ rfl rfl hl.1 rfl (lv_room (Nat.le_of_ble_eq_true rfl)) d_DR_run_41 ⟨Nat.le_of_ble_eq_true rfl, Nat.le_of_ble_eq_true rfl⟩) (fun u H41 locs w41 hz1 hP hD hS => ?_)
            obtain ⟨nm_41, cam_41, gma_41, gr_41, he_41, gi_41, fl_41, gv_41, pn_41, pk_41⟩ := u
            have hP := hP.sub (ws' := [(x0, .inr (0, [.ref aS, .ref aT, .ref aK, .ref aG, .ref aP, .ref aL, .int nm_41])), (aS, .inr (1, [.ref bS])), (bS, .inl (cI, 12, .inl th)), (aT, .inr (2, [.ref bT1, .ref bT2, .ref bT3, .int tc])), (bT1, .inl (cI, 30, .inl tm)), (bT2, .inl (cI, 30, .inl tk)), (bT3, .inl (cI, 30, .inl tg)), (aK, .inr (3, [.ref bK1, .ref bK2, .int sb, .long cam_41, .long gma_41])), (bK1, .inl (cL, 4, .inr (.inl gr_41))), (bK2, .inl (cI, 3, .inl rt)), (aG, .inr (4, [.ref bG1, .ref bG2, .ref bG3, .ref bG4, .int us, .int mo, .long he_41, .long gi_41, .long fl_41])), (bG2, .inl (cI, 4, .inl nd)), (bG3, .inl (cL, 4, .inr (.inl gv_41))), (bG4, .inl (cI, 4, .inl od)), (aP, .inr (5, [.ref bQ_30, .int pn_41])), (bQ_30, .inl (cL, pl_30, .inr (.inl pk_41)))]) [0, 1, 2, 3, 4, 5, 6, 7, 8, 9, 10, 11, 12, 13, 14, 15] rfl
            have hD := hD.sub (ws' := [(x0, .inr (0, [.ref aS, .ref aT, .ref aK, .ref aG, .ref aP, .ref aL, .int nm_41])), (aS, .inr (1, [.ref bS])), (bS, .inl (cI, 12, .inl th)), (aT, .inr (2, [.ref bT1, .ref bT2, .ref bT3, .int tc])), (bT1, .inl (cI, 30, .inl tm)), (bT2, .inl (cI, 30, .inl tk)), (bT3, .inl (cI, 30, .inl tg)), (aK, .inr (3, [.ref bK1, .ref bK2, .int sb, .long cam_41, .long gma_41])), (bK1, .inl (cL, 4, .inr (.inl gr_41))), (bK2, .inl (cI, 3, .inl rt)), (aG, .inr (4, [.ref bG1, .ref bG2, .ref bG3, .ref bG4, .int us, .int mo, .long he_41, .long gi_41, .long fl_41])), (bG2, .inl (cI, 4, .inl nd)), (bG3, .inl (cL, 4, .inr (.inl gv_41))), (bG4, .inl (cI, 4, .inl od)), (aP, .inr (5, [.ref bQ_30, .int pn_41])), (bQ_30, .inl (cL, pl_30, .inr (.inl pk_41)))]) [0, 1, 2, 3, 4, 5, 6, 7, 8, 9, 10, 11, 12, 13, 14, 15] (by decide) rfl
            have hpn3 := pm_pn hpn2 hpl2 w41
            refine lv_iinc (v := iv + 1) (lv' := [(2, .int (iv + 1)), (0, .ref x0), (1, .int p1)]) hx hb d_DR_run_44 hl (k := 2) rfl rfl (by decide) rfl (fun ls hl => ?_)
            refine lv_goto (tgt := 35) hx hb d_DR_run_47 (by decide) ?_
            exact ih35 (iv + 1) nm_41 cam_41 gma_41 gr_41 he_41 gi_41 fl_41 gv_41 pn_41 pk_41 _ _ _ (run_lt hiv (in_w1000 w5 c8) c37 hm35) (in_runn hiv (in_w1000 w5 c8) c37) hpn3 (by rw [hF35]; simp only [f_DR_run_L35, if_neg c37, w41]) hP hD hS (lv_sub hl [1, 2, 0] rfl)
      exact loop35 1001 0 nm cam gma gr he gi fl gv pn pk_30 _ _ _ (by decide) (by unfold vp_in; decide) hpn (by simp only [f_DR_run, w5, if_neg c8, if_pos c20, w30]) hP hD hS (lv_sub hl [1, 2, 0] rfl)
    · refine lv_iconst (v := (-1)) hx hb d_DR_run_23 (by decide) ?_
      have hP9 := hP.sub (ws' := [(x0, .inr (0, [.ref aS, .ref aT, .ref aK, .ref aG, .ref aP, .ref aL, .int nm])), (aS, .inr (1, [.ref bS])), (bS, .inl (cI, 12, .inl th)), (aT, .inr (2, [.ref bT1, .ref bT2, .ref bT3, .int tc])), (bT1, .inl (cI, 30, .inl tm)), (bT2, .inl (cI, 30, .inl tk)), (bT3, .inl (cI, 30, .inl tg)), (aK, .inr (3, [.ref bK1, .ref bK2, .int sb, .long cam, .long gma])), (bK1, .inl (cL, 4, .inr (.inl gr))), (bK2, .inl (cI, 3, .inl rt)), (aG, .inr (4, [.ref bG1, .ref bG2, .ref bG3, .ref bG4, .int us, .int mo, .long he, .long gi, .long fl])), (bG2, .inl (cI, 4, .inl nd)), (bG3, .inl (cL, 4, .inr (.inl gv))), (bG4, .inl (cI, 4, .inl od)), (aP, .inr (5, [.ref bP, .int pn])), (bP, .inl (cL, pl, .inr (.inl pk)))]) [0, 1, 2, 3, 4, 5, 6, 7, 8, 9, 10, 11, 12, 13, 14, 15] rfl
      have hD9 := hD.sub (ws' := [(x0, .inr (0, [.ref aS, .ref aT, .ref aK, .ref aG, .ref aP, .ref aL, .int nm])), (aS, .inr (1, [.ref bS])), (bS, .inl (cI, 12, .inl th)), (aT, .inr (2, [.ref bT1, .ref bT2, .ref bT3, .int tc])), (bT1, .inl (cI, 30, .inl tm)), (bT2, .inl (cI, 30, .inl tk)), (bT3, .inl (cI, 30, .inl tg)), (aK, .inr (3, [.ref bK1, .ref bK2, .int sb, .long cam, .long gma])), (bK1, .inl (cL, 4, .inr (.inl gr))), (bK2, .inl (cI, 3, .inl rt)), (aG, .inr (4, [.ref bG1, .ref bG2, .ref bG3, .ref bG4, .int us, .int mo, .long he, .long gi, .long fl])), (bG2, .inl (cI, 4, .inl nd)), (bG3, .inl (cL, 4, .inr (.inl gv))), (bG4, .inl (cI, 4, .inl od)), (aP, .inr (5, [.ref bP, .int pn])), (bP, .inl (cL, pl, .inr (.inl pk)))]) [0, 1, 2, 3, 4, 5, 6, 7, 8, 9, 10, 11, 12, 13, 14, 15] (by decide) rfl
      refine W.widen (k := 1) (n := 10000) (by decide) (by decide) ?_
      exact W.iret (v := (-1)) hx hb hr (fun t ht hW => ⟨⟨(-1), (bP, nm, cam, gma, gr, he, gi, fl, gv, pn, pl, pk), rfl, by simp only [f_DR_run, w5, if_neg c8, if_neg c20], by rw [ht]; exact hP9, hD9⟩, hS.F ht⟩) hS.2.2 d_DR_run_24
