theorem d_Tank_bring_0 : decode b_Tank_bring 0 = .ok (.aload_n 0, 1) := by decide +kernel
theorem d_Tank_bring_1 : decode b_Tank_bring 1 = .ok (.getfield 9, 3) := by decide +kernel
theorem d_Tank_bring_4 : decode b_Tank_bring 4 = .ok (.iload_n 1, 1) := by decide +kernel
theorem d_Tank_bring_5 : decode b_Tank_bring 5 = .ok (.dup2, 1) := by decide +kernel
theorem d_Tank_bring_6 : decode b_Tank_bring 6 = .ok (.laload, 1) := by decide +kernel
theorem d_Tank_bring_7 : decode b_Tank_bring 7 = .ok (.lload_n 2, 1) := by decide +kernel
theorem d_Tank_bring_8 : decode b_Tank_bring 8 = .ok (.ladd, 1) := by decide +kernel
theorem d_Tank_bring_9 : decode b_Tank_bring 9 = .ok (.lastore, 1) := by decide +kernel
theorem d_Tank_bring_10 : decode b_Tank_bring 10 = .ok (.aload_n 0, 1) := by decide +kernel
theorem d_Tank_bring_11 : decode b_Tank_bring 11 = .ok (.dup, 1) := by decide +kernel
theorem d_Tank_bring_12 : decode b_Tank_bring 12 = .ok (.getfield 24, 3) := by decide +kernel
theorem d_Tank_bring_15 : decode b_Tank_bring 15 = .ok (.lload_n 2, 1) := by decide +kernel
theorem d_Tank_bring_16 : decode b_Tank_bring 16 = .ok (.ladd, 1) := by decide +kernel
theorem d_Tank_bring_17 : decode b_Tank_bring 17 = .ok (.putfield 24, 3) := by decide +kernel
theorem d_Tank_bring_20 : decode b_Tank_bring 20 = .ok (.return_, 1) := by decide +kernel
theorem d_Tank_speed_0 : decode b_Tank_speed 0 = .ok (.aload_n 0, 1) := by decide +kernel
theorem d_Tank_speed_1 : decode b_Tank_speed 1 = .ok (.getfield 9, 3) := by decide +kernel
theorem d_Tank_speed_4 : decode b_Tank_speed 4 = .ok (.iconst 2, 1) := by decide +kernel
theorem d_Tank_speed_5 : decode b_Tank_speed 5 = .ok (.laload, 1) := by decide +kernel
theorem d_Tank_speed_6 : decode b_Tank_speed 6 = .ok (.aload_n 0, 1) := by decide +kernel
theorem d_Tank_speed_7 : decode b_Tank_speed 7 = .ok (.getfield 20, 3) := by decide +kernel
theorem d_Tank_speed_10 : decode b_Tank_speed 10 = .ok (.i2l, 1) := by decide +kernel
theorem d_Tank_speed_11 : decode b_Tank_speed 11 = .ok (.lcmp, 1) := by decide +kernel
theorem d_Tank_speed_12 : decode b_Tank_speed 12 = .ok (.ifCond .lt 5, 3) := by decide +kernel
theorem d_Tank_speed_15 : decode b_Tank_speed 15 = .ok (.lconst 0, 1) := by decide +kernel
theorem d_Tank_speed_16 : decode b_Tank_speed 16 = .ok (.lreturn, 1) := by decide +kernel
theorem d_Tank_speed_17 : decode b_Tank_speed 17 = .ok (.ldc2_w 39, 3) := by decide +kernel
theorem d_Tank_speed_20 : decode b_Tank_speed 20 = .ok (.ldc2_w 39, 3) := by decide +kernel
theorem d_Tank_speed_23 : decode b_Tank_speed 23 = .ok (.aload_n 0, 1) := by decide +kernel
theorem d_Tank_speed_24 : decode b_Tank_speed 24 = .ok (.getfield 9, 3) := by decide +kernel
theorem d_Tank_speed_27 : decode b_Tank_speed 27 = .ok (.iconst 2, 1) := by decide +kernel
theorem d_Tank_speed_28 : decode b_Tank_speed 28 = .ok (.laload, 1) := by decide +kernel
theorem d_Tank_speed_29 : decode b_Tank_speed 29 = .ok (.lmul, 1) := by decide +kernel
theorem d_Tank_speed_30 : decode b_Tank_speed 30 = .ok (.aload_n 0, 1) := by decide +kernel
theorem d_Tank_speed_31 : decode b_Tank_speed 31 = .ok (.getfield 20, 3) := by decide +kernel
theorem d_Tank_speed_34 : decode b_Tank_speed 34 = .ok (.i2l, 1) := by decide +kernel
theorem d_Tank_speed_35 : decode b_Tank_speed 35 = .ok (.ldiv, 1) := by decide +kernel
theorem d_Tank_speed_36 : decode b_Tank_speed 36 = .ok (.lsub, 1) := by decide +kernel
theorem d_Tank_speed_37 : decode b_Tank_speed 37 = .ok (.lreturn, 1) := by decide +kernel
theorem d_Tank_broken_0 : decode b_Tank_broken 0 = .ok (.aload_n 0, 1) := by decide +kernel
theorem d_Tank_broken_1 : decode b_Tank_broken 1 = .ok (.getfield 9, 3) := by decide +kernel
theorem d_Tank_broken_4 : decode b_Tank_broken 4 = .ok (.iload_n 1, 1) := by decide +kernel
theorem d_Tank_broken_5 : decode b_Tank_broken 5 = .ok (.laload, 1) := by decide +kernel
theorem d_Tank_broken_6 : decode b_Tank_broken 6 = .ok (.aload_n 0, 1) := by decide +kernel
theorem d_Tank_broken_7 : decode b_Tank_broken 7 = .ok (.getfield 15, 3) := by decide +kernel
theorem d_Tank_broken_10 : decode b_Tank_broken 10 = .ok (.iload_n 1, 1) := by decide +kernel
theorem d_Tank_broken_11 : decode b_Tank_broken 11 = .ok (.iaload, 1) := by decide +kernel
theorem d_Tank_broken_12 : decode b_Tank_broken 12 = .ok (.i2l, 1) := by decide +kernel
theorem d_Tank_broken_13 : decode b_Tank_broken 13 = .ok (.invokestatic 41, 3) := by decide +kernel
theorem d_Tank_broken_16 : decode b_Tank_broken 16 = .ok (.lload_n 2, 1) := by decide +kernel
theorem d_Tank_broken_17 : decode b_Tank_broken 17 = .ok (.invokestatic 45, 3) := by decide +kernel
theorem d_Tank_broken_20 : decode b_Tank_broken 20 = .ok (.lreturn, 1) := by decide +kernel
theorem d_Tank_breakDown_0 : decode b_Tank_breakDown 0 = .ok (.aload_n 0, 1) := by decide +kernel
theorem d_Tank_breakDown_1 : decode b_Tank_breakDown 1 = .ok (.invokevirtual 28, 3) := by decide +kernel
theorem d_Tank_breakDown_4 : decode b_Tank_breakDown 4 = .ok (.lstore_n 1, 1) := by decide +kernel
theorem d_Tank_breakDown_5 : decode b_Tank_breakDown 5 = .ok (.aload_n 0, 1) := by decide +kernel
theorem d_Tank_breakDown_6 : decode b_Tank_breakDown 6 = .ok (.iconst 0, 1) := by decide +kernel
theorem d_Tank_breakDown_7 : decode b_Tank_breakDown 7 = .ok (.lload_n 1, 1) := by decide +kernel
theorem d_Tank_breakDown_8 : decode b_Tank_breakDown 8 = .ok (.invokevirtual 32, 3) := by decide +kernel
theorem d_Tank_breakDown_11 : decode b_Tank_breakDown 11 = .ok (.lstore_n 3, 1) := by decide +kernel
theorem d_Tank_breakDown_12 : decode b_Tank_breakDown 12 = .ok (.aload_n 0, 1) := by decide +kernel
theorem d_Tank_breakDown_13 : decode b_Tank_breakDown 13 = .ok (.iconst 1, 1) := by decide +kernel
theorem d_Tank_breakDown_14 : decode b_Tank_breakDown 14 = .ok (.lload_n 1, 1) := by decide +kernel
theorem d_Tank_breakDown_15 : decode b_Tank_breakDown 15 = .ok (.invokevirtual 32, 3) := by decide +kernel
theorem d_Tank_breakDown_18 : decode b_Tank_breakDown 18 = .ok (.lstore 5, 2) := by decide +kernel
theorem d_Tank_breakDown_20 : decode b_Tank_breakDown 20 = .ok (.aload_n 0, 1) := by decide +kernel
theorem d_Tank_breakDown_21 : decode b_Tank_breakDown 21 = .ok (.iconst 2, 1) := by decide +kernel
theorem d_Tank_breakDown_22 : decode b_Tank_breakDown 22 = .ok (.lload_n 1, 1) := by decide +kernel
theorem d_Tank_breakDown_23 : decode b_Tank_breakDown 23 = .ok (.invokevirtual 32, 3) := by decide +kernel
theorem d_Tank_breakDown_26 : decode b_Tank_breakDown 26 = .ok (.lstore 7, 2) := by decide +kernel
theorem d_Tank_breakDown_28 : decode b_Tank_breakDown 28 = .ok (.aload_n 0, 1) := by decide +kernel
theorem d_Tank_breakDown_29 : decode b_Tank_breakDown 29 = .ok (.getfield 9, 3) := by decide +kernel
theorem d_Tank_breakDown_32 : decode b_Tank_breakDown 32 = .ok (.iconst 0, 1) := by decide +kernel
theorem d_Tank_breakDown_33 : decode b_Tank_breakDown 33 = .ok (.dup2, 1) := by decide +kernel
theorem d_Tank_breakDown_34 : decode b_Tank_breakDown 34 = .ok (.laload, 1) := by decide +kernel
theorem d_Tank_breakDown_35 : decode b_Tank_breakDown 35 = .ok (.lload_n 3, 1) := by decide +kernel
theorem d_Tank_breakDown_36 : decode b_Tank_breakDown 36 = .ok (.lsub, 1) := by decide +kernel
theorem d_Tank_breakDown_37 : decode b_Tank_breakDown 37 = .ok (.lastore, 1) := by decide +kernel
theorem d_Tank_breakDown_38 : decode b_Tank_breakDown 38 = .ok (.aload_n 0, 1) := by decide +kernel
theorem d_Tank_breakDown_39 : decode b_Tank_breakDown 39 = .ok (.getfield 9, 3) := by decide +kernel
theorem d_Tank_breakDown_42 : decode b_Tank_breakDown 42 = .ok (.iconst 1, 1) := by decide +kernel
theorem d_Tank_breakDown_43 : decode b_Tank_breakDown 43 = .ok (.dup2, 1) := by decide +kernel
theorem d_Tank_breakDown_44 : decode b_Tank_breakDown 44 = .ok (.laload, 1) := by decide +kernel
theorem d_Tank_breakDown_45 : decode b_Tank_breakDown 45 = .ok (.lload_n 3, 1) := by decide +kernel
theorem d_Tank_breakDown_46 : decode b_Tank_breakDown 46 = .ok (.lload 5, 2) := by decide +kernel
theorem d_Tank_breakDown_48 : decode b_Tank_breakDown 48 = .ok (.lsub, 1) := by decide +kernel
theorem d_Tank_breakDown_49 : decode b_Tank_breakDown 49 = .ok (.ladd, 1) := by decide +kernel
theorem d_Tank_breakDown_50 : decode b_Tank_breakDown 50 = .ok (.lastore, 1) := by decide +kernel
theorem d_Tank_breakDown_51 : decode b_Tank_breakDown 51 = .ok (.aload_n 0, 1) := by decide +kernel
theorem d_Tank_breakDown_52 : decode b_Tank_breakDown 52 = .ok (.getfield 9, 3) := by decide +kernel
theorem d_Tank_breakDown_55 : decode b_Tank_breakDown 55 = .ok (.iconst 2, 1) := by decide +kernel
theorem d_Tank_breakDown_56 : decode b_Tank_breakDown 56 = .ok (.dup2, 1) := by decide +kernel
theorem d_Tank_breakDown_57 : decode b_Tank_breakDown 57 = .ok (.laload, 1) := by decide +kernel
theorem d_Tank_breakDown_58 : decode b_Tank_breakDown 58 = .ok (.lload 5, 2) := by decide +kernel
theorem d_Tank_breakDown_60 : decode b_Tank_breakDown 60 = .ok (.lload 7, 2) := by decide +kernel
theorem d_Tank_breakDown_62 : decode b_Tank_breakDown 62 = .ok (.lsub, 1) := by decide +kernel
theorem d_Tank_breakDown_63 : decode b_Tank_breakDown 63 = .ok (.ladd, 1) := by decide +kernel
theorem d_Tank_breakDown_64 : decode b_Tank_breakDown 64 = .ok (.lastore, 1) := by decide +kernel
theorem d_Tank_breakDown_65 : decode b_Tank_breakDown 65 = .ok (.aload_n 0, 1) := by decide +kernel
theorem d_Tank_breakDown_66 : decode b_Tank_breakDown 66 = .ok (.dup, 1) := by decide +kernel
theorem d_Tank_breakDown_67 : decode b_Tank_breakDown 67 = .ok (.getfield 36, 3) := by decide +kernel
theorem d_Tank_breakDown_70 : decode b_Tank_breakDown 70 = .ok (.lload 7, 2) := by decide +kernel
theorem d_Tank_breakDown_72 : decode b_Tank_breakDown 72 = .ok (.ladd, 1) := by decide +kernel
theorem d_Tank_breakDown_73 : decode b_Tank_breakDown 73 = .ok (.putfield 36, 3) := by decide +kernel
theorem d_Tank_breakDown_76 : decode b_Tank_breakDown 76 = .ok (.lload 7, 2) := by decide +kernel
theorem d_Tank_breakDown_78 : decode b_Tank_breakDown 78 = .ok (.lreturn, 1) := by decide +kernel
theorem d_Tank_allParts_0 : decode b_Tank_allParts 0 = .ok (.lconst 0, 1) := by decide +kernel
theorem d_Tank_allParts_1 : decode b_Tank_allParts 1 = .ok (.lstore_n 1, 1) := by decide +kernel
theorem d_Tank_allParts_2 : decode b_Tank_allParts 2 = .ok (.iconst 0, 1) := by decide +kernel
theorem d_Tank_allParts_3 : decode b_Tank_allParts 3 = .ok (.istore_n 3, 1) := by decide +kernel
theorem d_Tank_allParts_4 : decode b_Tank_allParts 4 = .ok (.iload_n 3, 1) := by decide +kernel
theorem d_Tank_allParts_5 : decode b_Tank_allParts 5 = .ok (.iconst 4, 1) := by decide +kernel
theorem d_Tank_allParts_6 : decode b_Tank_allParts 6 = .ok (.if_icmp .ge 18, 3) := by decide +kernel
theorem d_Tank_allParts_9 : decode b_Tank_allParts 9 = .ok (.lload_n 1, 1) := by decide +kernel
theorem d_Tank_allParts_10 : decode b_Tank_allParts 10 = .ok (.aload_n 0, 1) := by decide +kernel
theorem d_Tank_allParts_11 : decode b_Tank_allParts 11 = .ok (.getfield 9, 3) := by decide +kernel
theorem d_Tank_allParts_14 : decode b_Tank_allParts 14 = .ok (.iload_n 3, 1) := by decide +kernel
theorem d_Tank_allParts_15 : decode b_Tank_allParts 15 = .ok (.laload, 1) := by decide +kernel
theorem d_Tank_allParts_16 : decode b_Tank_allParts 16 = .ok (.ladd, 1) := by decide +kernel
theorem d_Tank_allParts_17 : decode b_Tank_allParts 17 = .ok (.lstore_n 1, 1) := by decide +kernel
theorem d_Tank_allParts_18 : decode b_Tank_allParts 18 = .ok (.iinc 3 1, 3) := by decide +kernel
theorem d_Tank_allParts_21 : decode b_Tank_allParts 21 = .ok (.goto (-17), 3) := by decide +kernel
theorem d_Tank_allParts_24 : decode b_Tank_allParts 24 = .ok (.lload_n 1, 1) := by decide +kernel
theorem d_Tank_allParts_25 : decode b_Tank_allParts 25 = .ok (.lreturn, 1) := by decide +kernel
theorem d_Tank_isSour_0 : decode b_Tank_isSour 0 = .ok (.lload_n 1, 1) := by decide +kernel
theorem d_Tank_isSour_1 : decode b_Tank_isSour 1 = .ok (.ldc2_w 53, 3) := by decide +kernel
theorem d_Tank_isSour_4 : decode b_Tank_isSour 4 = .ok (.lcmp, 1) := by decide +kernel
theorem d_Tank_isSour_5 : decode b_Tank_isSour 5 = .ok (.ifCond .gt 33, 3) := by decide +kernel
theorem d_Tank_isSour_8 : decode b_Tank_isSour 8 = .ok (.lload_n 1, 1) := by decide +kernel
theorem d_Tank_isSour_9 : decode b_Tank_isSour 9 = .ok (.lload_n 1, 1) := by decide +kernel
theorem d_Tank_isSour_10 : decode b_Tank_isSour 10 = .ok (.lmul, 1) := by decide +kernel
theorem d_Tank_isSour_11 : decode b_Tank_isSour 11 = .ok (.lload_n 1, 1) := by decide +kernel
theorem d_Tank_isSour_12 : decode b_Tank_isSour 12 = .ok (.aload_n 0, 1) := by decide +kernel
theorem d_Tank_isSour_13 : decode b_Tank_isSour 13 = .ok (.getfield 9, 3) := by decide +kernel
theorem d_Tank_isSour_16 : decode b_Tank_isSour 16 = .ok (.iconst 3, 1) := by decide +kernel
theorem d_Tank_isSour_17 : decode b_Tank_isSour 17 = .ok (.laload, 1) := by decide +kernel
theorem d_Tank_isSour_18 : decode b_Tank_isSour 18 = .ok (.lmul, 1) := by decide +kernel
theorem d_Tank_isSour_19 : decode b_Tank_isSour 19 = .ok (.ladd, 1) := by decide +kernel
theorem d_Tank_isSour_20 : decode b_Tank_isSour 20 = .ok (.ldc2_w 39, 3) := by decide +kernel
theorem d_Tank_isSour_23 : decode b_Tank_isSour 23 = .ok (.aload_n 0, 1) := by decide +kernel
theorem d_Tank_isSour_24 : decode b_Tank_isSour 24 = .ok (.getfield 9, 3) := by decide +kernel
theorem d_Tank_isSour_27 : decode b_Tank_isSour 27 = .ok (.iconst 2, 1) := by decide +kernel
theorem d_Tank_isSour_28 : decode b_Tank_isSour 28 = .ok (.laload, 1) := by decide +kernel
theorem d_Tank_isSour_29 : decode b_Tank_isSour 29 = .ok (.lmul, 1) := by decide +kernel
theorem d_Tank_isSour_30 : decode b_Tank_isSour 30 = .ok (.lcmp, 1) := by decide +kernel
theorem d_Tank_isSour_31 : decode b_Tank_isSour 31 = .ok (.ifCond .gt 7, 3) := by decide +kernel
theorem d_Tank_isSour_34 : decode b_Tank_isSour 34 = .ok (.iconst 1, 1) := by decide +kernel
theorem d_Tank_isSour_35 : decode b_Tank_isSour 35 = .ok (.goto 4, 3) := by decide +kernel
theorem d_Tank_isSour_38 : decode b_Tank_isSour 38 = .ok (.iconst 0, 1) := by decide +kernel
theorem d_Tank_isSour_39 : decode b_Tank_isSour 39 = .ok (.ireturn, 1) := by decide +kernel
theorem d_Tank_sourness_0 : decode b_Tank_sourness 0 = .ok (.iconst 0, 1) := by decide +kernel
theorem d_Tank_sourness_1 : decode b_Tank_sourness 1 = .ok (.istore_n 1, 1) := by decide +kernel
theorem d_Tank_sourness_2 : decode b_Tank_sourness 2 = .ok (.ldc 48, 2) := by decide +kernel
theorem d_Tank_sourness_4 : decode b_Tank_sourness 4 = .ok (.istore_n 2, 1) := by decide +kernel
theorem d_Tank_sourness_5 : decode b_Tank_sourness 5 = .ok (.iload_n 2, 1) := by decide +kernel
theorem d_Tank_sourness_6 : decode b_Tank_sourness 6 = .ok (.ifCond .le 25, 3) := by decide +kernel
theorem d_Tank_sourness_9 : decode b_Tank_sourness 9 = .ok (.aload_n 0, 1) := by decide +kernel
theorem d_Tank_sourness_10 : decode b_Tank_sourness 10 = .ok (.iload_n 1, 1) := by decide +kernel
theorem d_Tank_sourness_11 : decode b_Tank_sourness 11 = .ok (.iload_n 2, 1) := by decide +kernel
theorem d_Tank_sourness_12 : decode b_Tank_sourness 12 = .ok (.iadd, 1) := by decide +kernel
theorem d_Tank_sourness_13 : decode b_Tank_sourness 13 = .ok (.i2l, 1) := by decide +kernel
theorem d_Tank_sourness_14 : decode b_Tank_sourness 14 = .ok (.invokevirtual 49, 3) := by decide +kernel
theorem d_Tank_sourness_17 : decode b_Tank_sourness 17 = .ok (.ifCond .eq 7, 3) := by decide +kernel
theorem d_Tank_sourness_20 : decode b_Tank_sourness 20 = .ok (.iload_n 1, 1) := by decide +kernel
theorem d_Tank_sourness_21 : decode b_Tank_sourness 21 = .ok (.iload_n 2, 1) := by decide +kernel
theorem d_Tank_sourness_22 : decode b_Tank_sourness 22 = .ok (.iadd, 1) := by decide +kernel
theorem d_Tank_sourness_23 : decode b_Tank_sourness 23 = .ok (.istore_n 1, 1) := by decide +kernel
theorem d_Tank_sourness_24 : decode b_Tank_sourness 24 = .ok (.iload_n 2, 1) := by decide +kernel
theorem d_Tank_sourness_25 : decode b_Tank_sourness 25 = .ok (.iconst 1, 1) := by decide +kernel
theorem d_Tank_sourness_26 : decode b_Tank_sourness 26 = .ok (.ishr, 1) := by decide +kernel
theorem d_Tank_sourness_27 : decode b_Tank_sourness 27 = .ok (.istore_n 2, 1) := by decide +kernel
theorem d_Tank_sourness_28 : decode b_Tank_sourness 28 = .ok (.goto (-23), 3) := by decide +kernel
theorem d_Tank_sourness_31 : decode b_Tank_sourness 31 = .ok (.iload_n 1, 1) := by decide +kernel
theorem d_Tank_sourness_32 : decode b_Tank_sourness 32 = .ok (.ireturn, 1) := by decide +kernel
def f_Tank_bring (cam : Int64) (gr : Nat → Int64) (p1 : Int32) (p2 : Int64) : Int64 × (Nat → Int64) := (cam + p2, vp_updL gr (Int32.toNatClampNeg p1) ((gr (Int32.toNatClampNeg p1)) + p2))
abbrev rm_Tank_bring : Room := { frames := 0, cells := 0, slots := 0, locals := 0 }
set_option maxHeartbeats 4000000 in
set_option maxRecDepth 100000 in
theorem c_Tank_bring (l : Launch) (dC : Nat → ClassId) (dI : Nat → Nat → Nat) (cI cL cZ : ClassId) (aK bK1 bK2 : Nat) (sz : Nat) (sb : Int32) (cam : Int64) (gma : Int64) (gr : Nat → Int64) (p1 : Int32) (p2 : Int64) (hp : vp_in p1 4) : Met l y_Tank_bring w_Tank_bring rm_Tank_bring (va_Pc [.ref aK, .int p1, .long p2] (c_pre dC dI cI cL cZ [(aK, .inr (3, [.ref bK1, .ref bK2, .int sb, .long cam, .long gma])), (bK1, .inl (cL, 4, .inr (.inl gr)))] sz)) (va_Qv (fun (u : Int64 × (Nat → Int64)) => f_Tank_bring cam gr p1 p2 = u) (c_post dC dI (fun (u : Int64 × (Nat → Int64)) => [(aK, .inr (3, [.ref bK1, .ref bK2, .int sb, .long u.1, .long gma])), (bK1, .inl (cL, 4, .inr (.inl u.2)))]) (va_A [(aK, .inr (3, [.ref bK1, .ref bK2, .int sb, .long cam, .long gma])), (bK1, .inl (cL, 4, .inr (.inl gr)))] sz)) (va_A [(aK, .inr (3, [.ref bK1, .ref bK2, .int sb, .long cam, .long gma])), (bK1, .inl (cL, 4, .inr (.inl gr)))] sz)) 0 0 (va_A [(aK, .inr (3, [.ref bK1, .ref bK2, .int sb, .long cam, .long gma])), (bK1, .inl (cL, 4, .inr (.inl gr)))] sz) := by
  refine Met.ofW (cc := b_Tank_bring) (maxL := 4) (ret := none) (by decide) rfl ?_
  intro p e s m args below meth c s₁ B hml hv
  obtain ⟨rfl, hsz, hP, hK, hN, hD0⟩ := hv
  have hx := B.exec
  have hb := B.bytes
  have hr := B.returns
  have hts := atoms_spec (ws := w_Tank_bring) B.pre
  have hown : s.vm.findClass R_Tank = some m.cls := findClass_of_methodNamed B.named
  have hlocks := B.notSynchronized
  have hwg : ∀ w ∈ wg, w.before ([.ref aK, .int p1, .long p2] : List Value).toArray s = true := fun w h => hts w (List.mem_cons_of_mem _ h)
  subst hsz
  have hD := hD0.self (sz := s.heap.size)
  generalize hAe : va_A [(aK, .inr (3, [.ref bK1, .ref bK2, .int sb, .long cam, .long gma])), (bK1, .inl (cL, 4, .inr (.inl gr)))] s.heap.size = A at hD ⊢
  have hA : ∀ q : Nat, s.heap.size ≤ q → A q := fun q h => by rw [← hAe]; exact Or.inr h
  have hS : va_S A s.heap s.heap [] := va_S.rf
  have hP : va_P (dC, dI) vwCl [(aK, .inr (3, [.ref bK1, .ref bK2, .int sb, .long cam, .long gma])), (bK1, .inl (cL, 4, .inr (.inl gr)))] s.heap := hP
  have hl := lv_entry ([.ref aK, .int p1, .long p2]) (n := 4) (Nat.le_of_ble_eq_true rfl)
  rw [lg_entry_eq]
  generalize (lg_sl ([.ref aK, .int p1, .long p2]) ++ List.replicate (4 - (lg_sl ([.ref aK, .int p1, .long p2])).length) Slot.unset).toArray = ls at hl ⊢
  have hl : lv_has ls 4 [(0, .ref aK), (1, .int p1), (2, .long p2)] := hl
  refine lv_aload_n hx hb d_Tank_bring_0 rfl (lv_at hl 0 rfl) ?_
  refine va_get (D := (dC, dI)) (ci := 3) (v := .ref bK1) (C := R_Tank) (T := F_Tank) (N := 5) hx hb hwg iu_Tank hown hK hP 0 rfl rfl 0 (by decide) (hwg _ kw_55) (fun _ h9 => h9) rfl d_Tank_bring_1 ?_
  refine lv_iload_n hx hb d_Tank_bring_4 rfl (lv_at hl 1 rfl) ?_
  refine lv_dup2_11 hx hb d_Tank_bring_5 rfl rfl ?_
  refine va_lald hx hb hK hP 1 1 rfl rfl hp d_Tank_bring_6 ?_
  refine lv_lload_n hx hb d_Tank_bring_7 rfl (lv_at hl 2 rfl) ?_
  refine lv_ladd hx hb d_Tank_bring_8 ?_
  refine va_last hx hb hK hP hD hS 1 1 rfl rfl hp d_Tank_bring_9 (fun H9 locs hP hD hS => ?_)
  have hP : va_P (dC, dI) vwCl [(aK, .inr (3, [.ref bK1, .ref bK2, .int sb, .long cam, .long gma])), (bK1, .inl (cL, 4, .inr (.inl (vp_updL gr (Int32.toNatClampNeg p1) ((gr (Int32.toNatClampNeg p1)) + p2)))))] H9 := hP
  have hD : va_D A [(aK, .inr (3, [.ref bK1, .ref bK2, .int sb, .long cam, .long gma])), (bK1, .inl (cL, 4, .inr (.inl (vp_updL gr (Int32.toNatClampNeg p1) ((gr (Int32.toNatClampNeg p1)) + p2)))))] := hD
  refine lv_aload_n hx hb d_Tank_bring_10 rfl (lv_at hl 0 rfl) ?_
  refine lv_dup hx hb d_Tank_bring_11 rfl ?_
  refine va_get (D := (dC, dI)) (ci := 3) (v := .long cam) (C := R_Tank) (T := F_Tank) (N := 5) hx hb hwg iu_Tank hown hK hP 0 rfl rfl 3 (by decide) (hwg _ kw_58) (fun _ h9 => h9) rfl d_Tank_bring_12 ?_
  refine lv_lload_n hx hb d_Tank_bring_15 rfl (lv_at hl 2 rfl) ?_
  refine lv_ladd hx hb d_Tank_bring_16 ?_
  refine va_put (D := (dC, dI)) (ci := 3) (v := .long (cam + p2)) (ty := .long) (C := R_Tank) (T := F_Tank) (N := 5) hx hb hwg iu_Tank t_Tank t_Tank_ok n_Tank hown hK hP hD hS 0 rfl rfl 3 (by decide) (hwg _ kw_58) (fun _ h9 => h9) rfl (by decide +kernel) rfl rfl (Nat.le_of_ble_eq_true rfl) d_Tank_bring_17 (fun H17 locs hP hD hS => ?_)
  have hP : va_P (dC, dI) vwCl [(aK, .inr (3, [.ref bK1, .ref bK2, .int sb, .long (cam + p2), .long gma])), (bK1, .inl (cL, 4, .inr (.inl (vp_updL gr (Int32.toNatClampNeg p1) ((gr (Int32.toNatClampNeg p1)) + p2)))))] H17 := hP
  have hD : va_D A [(aK, .inr (3, [.ref bK1, .ref bK2, .int sb, .long (cam + p2), .long gma])), (bK1, .inl (cL, 4, .inr (.inl (vp_updL gr (Int32.toNatClampNeg p1) ((gr (Int32.toNatClampNeg p1)) + p2)))))] := hD
  have hP9 := hP.sub (ws' := [(aK, .inr (3, [.ref bK1, .ref bK2, .int sb, .long (cam + p2), .long gma])), (bK1, .inl (cL, 4, .inr (.inl (vp_updL gr (Int32.toNatClampNeg p1) ((gr (Int32.toNatClampNeg p1)) + p2)))))]) [0, 1] rfl
  have hD9 := hD.sub (ws' := [(aK, .inr (3, [.ref bK1, .ref bK2, .int sb, .long (cam + p2), .long gma])), (bK1, .inl (cL, 4, .inr (.inl (vp_updL gr (Int32.toNatClampNeg p1) ((gr (Int32.toNatClampNeg p1)) + p2)))))]) [0, 1] (by decide) rfl
  exact W.vret hx hb hr (fun t ht hW => ⟨⟨(cam + p2, vp_updL gr (Int32.toNatClampNeg p1) ((gr (Int32.toNatClampNeg p1)) + p2)), rfl, by simp only [f_Tank_bring], by rw [ht]; exact hP9, hD9⟩, hS.F ht⟩) hS.2.2 d_Tank_bring_20
def f_Tank_speed (sb : Int32) (gr : Nat → Int64) : Int64 := if (lg_cmp (gr 2) (Int32.toInt64 sb)) < 0 then (1000 - ((1000 * (gr 2)) / (Int32.toInt64 sb))) else (0)
abbrev rm_Tank_speed : Room := { frames := 0, cells := 0, slots := 0, locals := 0 }
set_option maxHeartbeats 4000000 in
set_option maxRecDepth 100000 in
theorem c_Tank_speed (l : Launch) (dC : Nat → ClassId) (dI : Nat → Nat → Nat) (cI cL cZ : ClassId) (aK bK1 bK2 : Nat) (sz : Nat) (sb : Int32) (cam : Int64) (gma : Int64) (gr : Nat → Int64) (hsb : ¬ sb = 0) : Met l y_Tank_speed w_Tank_speed rm_Tank_speed (va_Pc [.ref aK] (c_pre dC dI cI cL cZ [(aK, .inr (3, [.ref bK1, .ref bK2, .int sb, .long cam, .long gma])), (bK1, .inl (cL, 4, .inr (.inl gr)))] sz)) (va_Ql (fun (r : Int64) (_ : Unit) => f_Tank_speed sb gr = r) (c_post dC dI (fun (u : Unit) => [(aK, .inr (3, [.ref bK1, .ref bK2, .int sb, .long cam, .long gma])), (bK1, .inl (cL, 4, .inr (.inl gr)))]) (va_A [(aK, .inr (3, [.ref bK1, .ref bK2, .int sb, .long cam, .long gma])), (bK1, .inl (cL, 4, .inr (.inl gr)))] sz)) (va_A [(aK, .inr (3, [.ref bK1, .ref bK2, .int sb, .long cam, .long gma])), (bK1, .inl (cL, 4, .inr (.inl gr)))] sz)) 0 0 (va_A [(aK, .inr (3, [.ref bK1, .ref bK2, .int sb, .long cam, .long gma])), (bK1, .inl (cL, 4, .inr (.inl gr)))] sz) := by
  refine Met.ofW (cc := b_Tank_speed) (maxL := 1) (ret := (some .long)) (by decide) rfl ?_
  intro p e s m args below meth c s₁ B hml hv
  obtain ⟨rfl, hsz, hP, hK, hN, hD0⟩ := hv
  have hx := B.exec
  have hb := B.bytes
  have hr := B.returns
  have hts := atoms_spec (ws := w_Tank_speed) B.pre
  have hown : s.vm.findClass R_Tank = some m.cls := findClass_of_methodNamed B.named
  have hlocks := B.notSynchronized
  have hwg : ∀ w ∈ wg, w.before ([.ref aK] : List Value).toArray s = true := fun w h => hts w (List.mem_cons_of_mem _ h)
  subst hsz
  have hD := hD0.self (sz := s.heap.size)
  generalize hAe : va_A [(aK, .inr (3, [.ref bK1, .ref bK2, .int sb, .long cam, .long gma])), (bK1, .inl (cL, 4, .inr (.inl gr)))] s.heap.size = A at hD ⊢
  have hA : ∀ q : Nat, s.heap.size ≤ q → A q := fun q h => by rw [← hAe]; exact Or.inr h
  have hS : va_S A s.heap s.heap [] := va_S.rf
  have hP : va_P (dC, dI) vwCl [(aK, .inr (3, [.ref bK1, .ref bK2, .int sb, .long cam, .long gma])), (bK1, .inl (cL, 4, .inr (.inl gr)))] s.heap := hP
  have hl := lv_entry ([.ref aK]) (n := 1) (Nat.le_of_ble_eq_true rfl)
  rw [lg_entry_eq]
  generalize (lg_sl ([.ref aK]) ++ List.replicate (1 - (lg_sl ([.ref aK])).length) Slot.unset).toArray = ls at hl ⊢
  have hl : lv_has ls 1 [(0, .ref aK)] := hl
  refine lv_aload_n hx hb d_Tank_speed_0 rfl (lv_at hl 0 rfl) ?_
  refine va_get (D := (dC, dI)) (ci := 3) (v := .ref bK1) (C := R_Tank) (T := F_Tank) (N := 5) hx hb hwg iu_Tank hown hK hP 0 rfl rfl 0 (by decide) (hwg _ kw_55) (fun _ h9 => h9) rfl d_Tank_speed_1 ?_
  refine lv_iconst (v := 2) hx hb d_Tank_speed_4 (by decide) ?_
  refine va_lald hx hb hK hP 1 1 rfl rfl (by unfold vp_in; decide) d_Tank_speed_5 ?_
  refine lv_aload_n hx hb d_Tank_speed_6 rfl (lv_at hl 0 rfl) ?_
  refine va_get (D := (dC, dI)) (ci := 3) (v := .int sb) (C := R_Tank) (T := F_Tank) (N := 5) hx hb hwg iu_Tank hown hK hP 0 rfl rfl 2 (by decide) (hwg _ kw_57) (fun _ h9 => h9) rfl d_Tank_speed_7 ?_
  refine lv_i2l hx hb d_Tank_speed_10 rfl ?_
  refine W.lcmp hx hb d_Tank_speed_11 ?_
  refine lv_if_lt (tgt := 17) hx hb d_Tank_speed_12 (by decide) (fun (c12 : (lg_cmp (gr 2) (Int32.toInt64 sb)) < 0) => ?_) (fun (c12 : ¬ ((lg_cmp (gr 2) (Int32.toInt64 sb)) < 0)) => ?_)
  · refine lv_ldc2 hx hb hown (hwg _ kw_208) d_Tank_speed_17 ?_
    refine lv_ldc2 hx hb hown (hwg _ kw_208) d_Tank_speed_20 ?_
    refine lv_aload_n hx hb d_Tank_speed_23 rfl (lv_at hl 0 rfl) ?_
    refine va_get (D := (dC, dI)) (ci := 3) (v := .ref bK1) (C := R_Tank) (T := F_Tank) (N := 5) hx hb hwg iu_Tank hown hK hP 0 rfl rfl 0 (by decide) (hwg _ kw_55) (fun _ h9 => h9) rfl d_Tank_speed_24 ?_
    refine lv_iconst (v := 2) hx hb d_Tank_speed_27 (by decide) ?_
    refine va_lald hx hb hK hP 1 1 rfl rfl (by unfold vp_in; decide) d_Tank_speed_28 ?_
    refine lv_lmul hx hb d_Tank_speed_29 ?_
    refine lv_aload_n hx hb d_Tank_speed_30 rfl (lv_at hl 0 rfl) ?_
    refine va_get (D := (dC, dI)) (ci := 3) (v := .int sb) (C := R_Tank) (T := F_Tank) (N := 5) hx hb hwg iu_Tank hown hK hP 0 rfl rfl 2 (by decide) (hwg _ kw_57) (fun _ h9 => h9) rfl d_Tank_speed_31 ?_
    refine lv_i2l hx hb d_Tank_speed_34 rfl ?_
    refine lv_ldiv hx hb d_Tank_speed_35 (ne_l hsb) ?_
    refine lv_lsub hx hb d_Tank_speed_36 ?_
    have hP9 := hP.sub (ws' := [(aK, .inr (3, [.ref bK1, .ref bK2, .int sb, .long cam, .long gma])), (bK1, .inl (cL, 4, .inr (.inl gr)))]) [0, 1] rfl
    have hD9 := hD.sub (ws' := [(aK, .inr (3, [.ref bK1, .ref bK2, .int sb, .long cam, .long gma])), (bK1, .inl (cL, 4, .inr (.inl gr)))]) [0, 1] (by decide) rfl
    exact W.lret (v := 1000 - ((1000 * (gr 2)) / (Int32.toInt64 sb))) hx hb hr (fun t ht hW => ⟨⟨1000 - ((1000 * (gr 2)) / (Int32.toInt64 sb)), (), rfl, by simp only [f_Tank_speed, if_pos c12], by rw [ht]; exact hP9, hD9⟩, hS.F ht⟩) hS.2.2 d_Tank_speed_37
  · refine lv_lconst (v := 0) hx hb d_Tank_speed_15 (by decide) ?_
    have hP9 := hP.sub (ws' := [(aK, .inr (3, [.ref bK1, .ref bK2, .int sb, .long cam, .long gma])), (bK1, .inl (cL, 4, .inr (.inl gr)))]) [0, 1] rfl
    have hD9 := hD.sub (ws' := [(aK, .inr (3, [.ref bK1, .ref bK2, .int sb, .long cam, .long gma])), (bK1, .inl (cL, 4, .inr (.inl gr)))]) [0, 1] (by decide) rfl
    exact W.lret (v := 0) hx hb hr (fun t ht hW => ⟨⟨0, (), rfl, by simp only [f_Tank_speed, if_neg c12], by rw [ht]; exact hP9, hD9⟩, hS.F ht⟩) hS.2.2 d_Tank_speed_16
def f_Tank_broken (gr : Nat → Int64) (rt : Nat → Int32) (p1 : Int32) (p2 : Int64) : Int64 := let r13 := f_DR_millionthsOf (gr (Int32.toNatClampNeg p1)) (Int32.toInt64 (rt (Int32.toNatClampNeg p1))); let r17 := f_DR_thousandthsOf r13 p2; r17
abbrev rm_Tank_broken : Room := { frames := 1, cells := 0, slots := 0, locals := 23 }
set_option maxHeartbeats 4000000 in
set_option maxRecDepth 100000 in
theorem c_Tank_broken (l : Launch) (dC : Nat → ClassId) (dI : Nat → Nat → Nat) (cI cL cZ : ClassId) (aK bK1 bK2 : Nat) (sz : Nat) (sb : Int32) (cam : Int64) (gma : Int64) (gr : Nat → Int64) (rt : Nat → Int32) (p1 : Int32) (p2 : Int64) (hp : vp_in p1 3) : Met l y_Tank_broken w_Tank_broken rm_Tank_broken (va_Pc [.ref aK, .int p1, .long p2] (c_pre dC dI cI cL cZ [(aK, .inr (3, [.ref bK1, .ref bK2, .int sb, .long cam, .long gma])), (bK1, .inl (cL, 4, .inr (.inl gr))), (bK2, .inl (cI, 3, .inl rt))] sz)) (va_Ql (fun (r : Int64) (_ : Unit) => f_Tank_broken gr rt p1 p2 = r) (c_post dC dI (fun (u : Unit) => [(aK, .inr (3, [.ref bK1, .ref bK2, .int sb, .long cam, .long gma])), (bK1, .inl (cL, 4, .inr (.inl gr))), (bK2, .inl (cI, 3, .inl rt))]) (va_A [(aK, .inr (3, [.ref bK1, .ref bK2, .int sb, .long cam, .long gma])), (bK1, .inl (cL, 4, .inr (.inl gr))), (bK2, .inl (cI, 3, .inl rt))] sz)) (va_A [(aK, .inr (3, [.ref bK1, .ref bK2, .int sb, .long cam, .long gma])), (bK1, .inl (cL, 4, .inr (.inl gr))), (bK2, .inl (cI, 3, .inl rt))] sz)) 0 0 (va_A [(aK, .inr (3, [.ref bK1, .ref bK2, .int sb, .long cam, .long gma])), (bK1, .inl (cL, 4, .inr (.inl gr))), (bK2, .inl (cI, 3, .inl rt))] sz) := by
  refine Met.ofW (cc := b_Tank_broken) (maxL := 4) (ret := (some .long)) (by decide) rfl ?_
  intro p e s m args below meth c s₁ B hml hv
  obtain ⟨rfl, hsz, hP, hK, hN, hD0⟩ := hv
  have hx := B.exec
  have hb := B.bytes
  have hr := B.returns
  have hts := atoms_spec (ws := w_Tank_broken) B.pre
  have hown : s.vm.findClass R_Tank = some m.cls := findClass_of_methodNamed B.named
  have hlocks := B.notSynchronized
  have hwg : ∀ w ∈ wg, w.before ([.ref aK, .int p1, .long p2] : List Value).toArray s = true := fun w h => hts w (List.mem_cons_of_mem _ h)
  subst hsz
  have hD := hD0.self (sz := s.heap.size)
  generalize hAe : va_A [(aK, .inr (3, [.ref bK1, .ref bK2, .int sb, .long cam, .long gma])), (bK1, .inl (cL, 4, .inr (.inl gr))), (bK2, .inl (cI, 3, .inl rt))] s.heap.size = A at hD ⊢
  have hA : ∀ q : Nat, s.heap.size ≤ q → A q := fun q h => by rw [← hAe]; exact Or.inr h
  have hS : va_S A s.heap s.heap [] := va_S.rf
  have hP : va_P (dC, dI) vwCl [(aK, .inr (3, [.ref bK1, .ref bK2, .int sb, .long cam, .long gma])), (bK1, .inl (cL, 4, .inr (.inl gr))), (bK2, .inl (cI, 3, .inl rt))] s.heap := hP
  have hl := lv_entry ([.ref aK, .int p1, .long p2]) (n := 4) (Nat.le_of_ble_eq_true rfl)
  rw [lg_entry_eq]
  generalize (lg_sl ([.ref aK, .int p1, .long p2]) ++ List.replicate (4 - (lg_sl ([.ref aK, .int p1, .long p2])).length) Slot.unset).toArray = ls at hl ⊢
  have hl : lv_has ls 4 [(0, .ref aK), (1, .int p1), (2, .long p2)] := hl
  refine lv_aload_n hx hb d_Tank_broken_0 rfl (lv_at hl 0 rfl) ?_
  refine va_get (D := (dC, dI)) (ci := 3) (v := .ref bK1) (C := R_Tank) (T := F_Tank) (N := 5) hx hb hwg iu_Tank hown hK hP 0 rfl rfl 0 (by decide) (hwg _ kw_55) (fun _ h9 => h9) rfl d_Tank_broken_1 ?_
  refine lv_iload_n hx hb d_Tank_broken_4 rfl (lv_at hl 1 rfl) ?_
  refine va_lald hx hb hK hP 1 1 rfl rfl (in_up hp) d_Tank_broken_5 ?_
  refine lv_aload_n hx hb d_Tank_broken_6 rfl (lv_at hl 0 rfl) ?_
  refine va_get (D := (dC, dI)) (ci := 3) (v := .ref bK2) (C := R_Tank) (T := F_Tank) (N := 5) hx hb hwg iu_Tank hown hK hP 0 rfl rfl 1 (by decide) (hwg _ kw_56) (fun _ h9 => h9) rfl d_Tank_broken_7 ?_
  refine lv_iload_n hx hb d_Tank_broken_10 rfl (lv_at hl 1 rfl) ?_
  refine va_iald hx hb hK hP 2 0 rfl rfl hp d_Tank_broken_11 ?_
  refine lv_i2l hx hb d_Tank_broken_12 rfl ?_
  have hPc := hP.sub (ws' := []) [] rfl
  have hDc := hD.sub (ws' := []) [] (by decide) rfl
  refine k_calll hP hD hS hA [] [0, 1, 2] (wc := []) (wr := [(aK, .inr (3, [.ref bK1, .ref bK2, .int sb, .long cam, .long gma])), (bK1, .inl (cL, 4, .inr (.inl gr))), (bK2, .inl (cI, 3, .inl rt))]) rfl rfl (by decide) (by decide) (va_runSN (As := [.long (gr (Int32.toNatClampNeg p1)), .long (Int32.toInt64 (rt (Int32.toNatClampNeg p1)))]) (rest := []) ⟨hx, hb, hml, hown, hwg⟩ (c_DR_millionthsOf l dC dI cI cL cZ s.heap.size (gr (Int32.toNatClampNeg p1)) (Int32.toInt64 (rt (Int32.toNatClampNeg p1)))) ⟨va_cnB 2 hwg (g_I kw_213) rfl rfl rfl (hN _ nk_24) (hwg _ kw_14) (by decide +kernel) ⟨Nat.le_of_ble_eq_true rfl, Nat.le_of_ble_eq_true rfl⟩, hwg _ kw_212, trivial⟩ ⟨c_pre_call, c_pre_mk hPc hDc hK hN _⟩ rfl rfl hl.1 rfl (lv_room (Nat.le_of_ble_eq_true rfl)) d_Tank_broken_13 ⟨Nat.le_of_ble_eq_true rfl, Nat.le_of_ble_eq_true rfl⟩) (fun r13 u H13 locs w13 hz1 hP hD hS => ?_)
  have hP := hP.sub (ws' := [(aK, .inr (3, [.ref bK1, .ref bK2, .int sb, .long cam, .long gma])), (bK1, .inl (cL, 4, .inr (.inl gr))), (bK2, .inl (cI, 3, .inl rt))]) [0, 1, 2] rfl
  have hD := hD.sub (ws' := [(aK, .inr (3, [.ref bK1, .ref bK2, .int sb, .long cam, .long gma])), (bK1, .inl (cL, 4, .inr (.inl gr))), (bK2, .inl (cI, 3, .inl rt))]) [0, 1, 2] (by decide) rfl
  refine lv_lload_n hx hb d_Tank_broken_16 rfl (lv_at hl 2 rfl) ?_
  have hPc := hP.sub (ws' := []) [] rfl
  have hDc := hD.sub (ws' := []) [] (by decide) rfl
  refine k_calll hP hD hS hA [] [0, 1, 2] (wc := []) (wr := [(aK, .inr (3, [.ref bK1, .ref bK2, .int sb, .long cam, .long gma])), (bK1, .inl (cL, 4, .inr (.inl gr))), (bK2, .inl (cI, 3, .inl rt))]) rfl rfl (by decide) (by decide) (va_runSN (As := [.long r13, .long p2]) (rest := []) ⟨hx, hb, hml, hown, hwg⟩ (c_DR_thousandthsOf l dC dI cI cL cZ H13.size r13 p2) ⟨va_cnB 2 hwg (g_I kw_199) rfl rfl rfl (hN _ nk_25) (hwg _ kw_14) (by decide +kernel) ⟨Nat.le_of_ble_eq_true rfl, Nat.le_of_ble_eq_true rfl⟩, hwg _ kw_198, trivial⟩ ⟨c_pre_call, c_pre_mk hPc hDc hK hN _⟩ rfl rfl hl.1 rfl (lv_room (Nat.le_of_ble_eq_true rfl)) d_Tank_broken_17 ⟨Nat.le_of_ble_eq_true rfl, Nat.le_of_ble_eq_true rfl⟩) (fun r17 u H17 locs w17 hz1 hP hD hS => ?_)
  have hP := hP.sub (ws' := [(aK, .inr (3, [.ref bK1, .ref bK2, .int sb, .long cam, .long gma])), (bK1, .inl (cL, 4, .inr (.inl gr))), (bK2, .inl (cI, 3, .inl rt))]) [0, 1, 2] rfl
  have hD := hD.sub (ws' := [(aK, .inr (3, [.ref bK1, .ref bK2, .int sb, .long cam, .long gma])), (bK1, .inl (cL, 4, .inr (.inl gr))), (bK2, .inl (cI, 3, .inl rt))]) [0, 1, 2] (by decide) rfl
  have hP9 := hP.sub (ws' := [(aK, .inr (3, [.ref bK1, .ref bK2, .int sb, .long cam, .long gma])), (bK1, .inl (cL, 4, .inr (.inl gr))), (bK2, .inl (cI, 3, .inl rt))]) [0, 1, 2] rfl
  have hD9 := hD.sub (ws' := [(aK, .inr (3, [.ref bK1, .ref bK2, .int sb, .long cam, .long gma])), (bK1, .inl (cL, 4, .inr (.inl gr))), (bK2, .inl (cI, 3, .inl rt))]) [0, 1, 2] (by decide) rfl
  exact W.lret (v := r17) hx hb hr (fun t ht hW => ⟨⟨r17, (), rfl, by simp only [f_Tank_broken, w13, w17], by rw [ht]; exact hP9, hD9⟩, hS.F ht⟩) hS.2.2 d_Tank_broken_20
def f_Tank_breakDown (sb : Int32) (gma : Int64) (gr : Nat → Int64) (rt : Nat → Int32) : Int64 × Int64 × (Nat → Int64) := let r1 := f_Tank_speed sb gr; let r8 := f_Tank_broken gr rt 0 r1; let r15 := f_Tank_broken gr rt 1 r1; let r23 := f_Tank_broken gr rt 2 r1; (r23, gma + r23, vp_updL (vp_updL (vp_updL gr 0 ((gr 0) - r8)) 1 (((vp_updL gr 0 ((gr 0) - r8)) 1) + (r8 - r15))) 2 (((vp_updL (vp_updL gr 0 ((gr 0) - r8)) 1 (((vp_updL gr 0 ((gr 0) - r8)) 1) + (r8 - r15))) 2) + (r15 - r23)))
abbrev rm_Tank_breakDown : Room := { frames := 2, cells := 0, slots := 0, locals := 46 }
set_option maxHeartbeats 4000000 in
set_option maxRecDepth 100000 in
theorem c_Tank_breakDown (l : Launch) (dC : Nat → ClassId) (dI : Nat → Nat → Nat) (cI cL cZ : ClassId) (aK bK1 bK2 : Nat) (sz : Nat) (sb : Int32) (cam : Int64) (gma : Int64) (gr : Nat → Int64) (rt : Nat → Int32) (hsb : ¬ sb = 0) : Met l y_Tank_breakDown w_Tank_breakDown rm_Tank_breakDown (va_Pc [.ref aK] (c_pre dC dI cI cL cZ [(aK, .inr (3, [.ref bK1, .ref bK2, .int sb, .long cam, .long gma])), (bK1, .inl (cL, 4, .inr (.inl gr))), (bK2, .inl (cI, 3, .inl rt))] sz)) (va_Ql (fun (r : Int64) (u : Int64 × (Nat → Int64)) => f_Tank_breakDown sb gma gr rt = (r, u)) (c_post dC dI (fun (u : Int64 × (Nat → Int64)) => [(aK, .inr (3, [.ref bK1, .ref bK2, .int sb, .long cam, .long u.1])), (bK1, .inl (cL, 4, .inr (.inl u.2))), (bK2, .inl (cI, 3, .inl rt))]) (va_A [(aK, .inr (3, [.ref bK1, .ref bK2, .int sb, .long cam, .long gma])), (bK1, .inl (cL, 4, .inr (.inl gr))), (bK2, .inl (cI, 3, .inl rt))] sz)) (va_A [(aK, .inr (3, [.ref bK1, .ref bK2, .int sb, .long cam, .long gma])), (bK1, .inl (cL, 4, .inr (.inl gr))), (bK2, .inl (cI, 3, .inl rt))] sz)) 0 0 (va_A [(aK, .inr (3, [.ref bK1, .ref bK2, .int sb, .long cam, .long gma])), (bK1, .inl (cL, 4, .inr (.inl gr))), (bK2, .inl (cI, 3, .inl rt))] sz) := by
  refine Met.ofW (cc := b_Tank_breakDown) (maxL := 9) (ret := (some .long)) (by decide) rfl ?_
  intro p e s m args below meth c s₁ B hml hv
  obtain ⟨rfl, hsz, hP, hK, hN, hD0⟩ := hv
  have hx := B.exec
  have hb := B.bytes
  have hr := B.returns
  have hts := atoms_spec (ws := w_Tank_breakDown) B.pre
  have hown : s.vm.findClass R_Tank = some m.cls := findClass_of_methodNamed B.named
  have hlocks := B.notSynchronized
  have hwg : ∀ w ∈ wg, w.before ([.ref aK] : List Value).toArray s = true := fun w h => hts w (List.mem_cons_of_mem _ h)
  subst hsz
  have hD := hD0.self (sz := s.heap.size)
  generalize hAe : va_A [(aK, .inr (3, [.ref bK1, .ref bK2, .int sb, .long cam, .long gma])), (bK1, .inl (cL, 4, .inr (.inl gr))), (bK2, .inl (cI, 3, .inl rt))] s.heap.size = A at hD ⊢
  have hA : ∀ q : Nat, s.heap.size ≤ q → A q := fun q h => by rw [← hAe]; exact Or.inr h
  have hS : va_S A s.heap s.heap [] := va_S.rf
  have hP : va_P (dC, dI) vwCl [(aK, .inr (3, [.ref bK1, .ref bK2, .int sb, .long cam, .long gma])), (bK1, .inl (cL, 4, .inr (.inl gr))), (bK2, .inl (cI, 3, .inl rt))] s.heap := hP
  have hl := lv_entry ([.ref aK]) (n := 9) (Nat.le_of_ble_eq_true rfl)
  rw [lg_entry_eq]
  generalize (lg_sl ([.ref aK]) ++ List.replicate (9 - (lg_sl ([.ref aK])).length) Slot.unset).toArray = ls at hl ⊢
  have hl : lv_has ls 9 [(0, .ref aK)] := hl
  refine lv_aload_n hx hb d_Tank_breakDown_0 rfl (lv_at hl 0 rfl) ?_
  have hPc := hP.sub (ws' := [(aK, .inr (3, [.ref bK1, .ref bK2, .int sb, .long cam, .long gma])), (bK1, .inl (cL, 4, .inr (.inl gr)))]) [0, 1] rfl
  have hDc := hD.sub (ws' := [(aK, .inr (3, [.ref bK1, .ref bK2, .int sb, .long cam, .long gma])), (bK1, .inl (cL, 4, .inr (.inl gr)))]) [0, 1] (by decide) rfl
  refine k_calll hP hD hS hA [0, 1] [2] (wc := [(aK, .inr (3, [.ref bK1, .ref bK2, .int sb, .long cam, .long gma])), (bK1, .inl (cL, 4, .inr (.inl gr)))]) (wr := [(bK2, .inl (cI, 3, .inl rt))]) rfl rfl (by decide) (by decide) (va_runV (As := []) (rest := []) ⟨hx, hb, hml, hown, hwg⟩ (c_Tank_speed l dC dI cI cL cZ aK bK1 bK2 s.heap.size sb cam gma gr (by first | assumption | decide | omega)) (cwV 0 hwg (g_V kw_205 kw_206 kw_3 kw_17 kw_207) rfl rfl rfl (by decide +kernel) ⟨Nat.le_of_ble_eq_true rfl, Nat.le_of_ble_eq_true rfl⟩) ⟨c_pre_call, va_recv hK hPc (ci := 3) (q0 := 0) rfl rfl, c_pre_mk hPc hDc hK hN _⟩ rfl rfl hl.1 rfl (lv_room (Nat.le_of_ble_eq_true rfl)) d_Tank_breakDown_1 ⟨Nat.le_of_ble_eq_true rfl, Nat.le_of_ble_eq_true rfl⟩) (fun r1 u H1 locs w1 hz1 hP hD hS => ?_)
  have hP := hP.sub (ws' := [(aK, .inr (3, [.ref bK1, .ref bK2, .int sb, .long cam, .long gma])), (bK1, .inl (cL, 4, .inr (.inl gr))), (bK2, .inl (cI, 3, .inl rt))]) [1, 2, 0] rfl
  have hD := hD.sub (ws' := [(aK, .inr (3, [.ref bK1, .ref bK2, .int sb, .long cam, .long gma])), (bK1, .inl (cL, 4, .inr (.inl gr))), (bK2, .inl (cI, 3, .inl rt))]) [1, 2, 0] (by decide) rfl
  refine lv_lstore_n (lv' := [(1, .long r1), (0, .ref aK)]) hx hb d_Tank_breakDown_4 rfl hl (by decide) rfl (fun ls hl => ?_)
  refine lv_aload_n hx hb d_Tank_breakDown_5 rfl (lv_at hl 1 rfl) ?_
  refine lv_iconst (v := 0) hx hb d_Tank_breakDown_6 (by decide) ?_
  refine lv_lload_n hx hb d_Tank_breakDown_7 rfl (lv_at hl 0 rfl) ?_
  have hPc := hP.sub (ws' := [(aK, .inr (3, [.ref bK1, .ref bK2, .int sb, .long cam, .long gma])), (bK1, .inl (cL, 4, .inr (.inl gr))), (bK2, .inl (cI, 3, .inl rt))]) [0, 1, 2] rfl
  have hDc := hD.sub (ws' := [(aK, .inr (3, [.ref bK1, .ref bK2, .int sb, .long cam, .long gma])), (bK1, .inl (cL, 4, .inr (.inl gr))), (bK2, .inl (cI, 3, .inl rt))]) [0, 1, 2] (by decide) rfl
  refine k_calll hP hD hS hA [0, 1, 2] [] (wc := [(aK, .inr (3, [.ref bK1, .ref bK2, .int sb, .long cam, .long gma])), (bK1, .inl (cL, 4, .inr (.inl gr))), (bK2, .inl (cI, 3, .inl rt))]) (wr := []) rfl rfl (by decide) (by decide) (va_runV (As := [.int 0, .long r1]) (rest := []) ⟨hx, hb, hml, hown, hwg⟩ (c_Tank_broken l dC dI cI cL cZ aK bK1 bK2 H1.size sb cam gma gr rt 0 r1 (by unfold vp_in; decide)) (cwV 2 hwg (g_V kw_209 kw_210 kw_4 kw_17 kw_211) rfl rfl rfl (by decide +kernel) ⟨Nat.le_of_ble_eq_true rfl, Nat.le_of_ble_eq_true rfl⟩) ⟨c_pre_call, va_recv hK hPc (ci := 3) (q0 := 0) rfl rfl, c_pre_mk hPc hDc hK hN _⟩ rfl rfl hl.1 rfl (lv_room (Nat.le_of_ble_eq_true rfl)) d_Tank_breakDown_8 ⟨Nat.le_of_ble_eq_true rfl, Nat.le_of_ble_eq_true rfl⟩) (fun r8 u H8 locs w8 hz1 hP hD hS => ?_)
  have hP := hP.sub (ws' := [(aK, .inr (3, [.ref bK1, .ref bK2, .int sb, .long cam, .long gma])), (bK1, .inl (cL, 4, .inr (.inl gr))), (bK2, .inl (cI, 3, .inl rt))]) [0, 1, 2] rfl
  have hD := hD.sub (ws' := [(aK, .inr (3, [.ref bK1, .ref bK2, .int sb, .long cam, .long gma])), (bK1, .inl (cL, 4, .inr (.inl gr))), (bK2, .inl (cI, 3, .inl rt))]) [0, 1, 2] (by decide) rfl
  refine lv_lstore_n (lv' := [(3, .long r8), (1, .long r1), (0, .ref aK)]) hx hb d_Tank_breakDown_11 rfl hl (by decide) rfl (fun ls hl => ?_)
  refine lv_aload_n hx hb d_Tank_breakDown_12 rfl (lv_at hl 2 rfl) ?_
  refine lv_iconst (v := 1) hx hb d_Tank_breakDown_13 (by decide) ?_
  refine lv_lload_n hx hb d_Tank_breakDown_14 rfl (lv_at hl 1 rfl) ?_
  have hPc := hP.sub (ws' := [(aK, .inr (3, [.ref bK1, .ref bK2, .int sb, .long cam, .long gma])), (bK1, .inl (cL, 4, .inr (.inl gr))), (bK2, .inl (cI, 3, .inl rt))]) [0, 1, 2] rfl
  have hDc := hD.sub (ws' := [(aK, .inr (3, [.ref bK1, .ref bK2, .int sb, .long cam, .long gma])), (bK1, .inl (cL, 4, .inr (.inl gr))), (bK2, .inl (cI, 3, .inl rt))]) [0, 1, 2] (by decide) rfl
  refine k_calll hP hD hS hA [0, 1, 2] [] (wc := [(aK, .inr (3, [.ref bK1, .ref bK2, .int sb, .long cam, .long gma])), (bK1, .inl (cL, 4, .inr (.inl gr))), (bK2, .inl (cI, 3, .inl rt))]) (wr := []) rfl rfl (by decide) (by decide) (va_runV (As := [.int 1, .long r1]) (rest := []) ⟨hx, hb, hml, hown, hwg⟩ (c_Tank_broken l dC dI cI cL cZ aK bK1 bK2 H8.size sb cam gma gr rt 1 r1 (by unfold vp_in; decide)) (cwV 2 hwg (g_V kw_209 kw_210 kw_4 kw_17 kw_211) rfl rfl rfl (by decide +kernel) ⟨Nat.le_of_ble_eq_true rfl, Nat.le_of_ble_eq_true rfl⟩) ⟨c_pre_call, va_recv hK hPc (ci := 3) (q0 := 0) rfl rfl, c_pre_mk hPc hDc hK hN _⟩ rfl rfl hl.1 rfl (lv_room (Nat.le_of_ble_eq_true rfl)) d_Tank_breakDown_15 ⟨Nat.le_of_ble_eq_true rfl, Nat.le_of_ble_eq_true rfl⟩) (fun r15 u H15 locs w15 hz1 hP hD hS => ?_)
  have hP := hP.sub (ws' := [(aK, .inr (3, [.ref bK1, .ref bK2, .int sb, .long cam, .long gma])), (bK1, .inl (cL, 4, .inr (.inl gr))), (bK2, .inl (cI, 3, .inl rt))]) [0, 1, 2] rfl
  have hD := hD.sub (ws' := [(aK, .inr (3, [.ref bK1, .ref bK2, .int sb, .long cam, .long gma])), (bK1, .inl (cL, 4, .inr (.inl gr))), (bK2, .inl (cI, 3, .inl rt))]) [0, 1, 2] (by decide) rfl
  refine lv_lstore (lv' := [(5, .long r15), (3, .long r8), (1, .long r1), (0, .ref aK)]) hx hb d_Tank_breakDown_18 hl (by decide) rfl (fun ls hl => ?_)
  refine lv_aload_n hx hb d_Tank_breakDown_20 rfl (lv_at hl 3 rfl) ?_
  refine lv_iconst (v := 2) hx hb d_Tank_breakDown_21 (by decide) ?_
  refine lv_lload_n hx hb d_Tank_breakDown_22 rfl (lv_at hl 2 rfl) ?_
  have hPc := hP.sub (ws' := [(aK, .inr (3, [.ref bK1, .ref bK2, .int sb, .long cam, .long gma])), (bK1, .inl (cL, 4, .inr (.inl gr))), (bK2, .inl (cI, 3, .inl rt))]) [0, 1, 2] rfl
  have hDc := hD.sub (ws' := [(aK, .inr (3, [.ref bK1, .ref bK2, .int sb, .long cam, .long gma])), (bK1, .inl (cL, 4, .inr (.inl gr))), (bK2, .inl (cI, 3, .inl rt))]) [0, 1, 2] (by decide) rfl
  refine k_calll hP hD hS hA [0, 1, 2] [] (wc := [(aK, .inr (3, [.ref bK1, .ref bK2, .int sb, .long cam, .long gma])), (bK1, .inl (cL, 4, .inr (.inl gr))), (bK2, .inl (cI, 3, .inl rt))]) (wr := []) rfl rfl (by decide) (by decide) (va_runV (As := [.int 2, .long r1]) (rest := []) ⟨hx, hb, hml, hown, hwg⟩ (c_Tank_broken l dC dI cI cL cZ aK bK1 bK2 H15.size sb cam gma gr rt 2 r1 (by unfold vp_in; decide)) (cwV 2 hwg (g_V kw_209 kw_210 kw_4 kw_17 kw_211) rfl rfl rfl (by decide +kernel) ⟨Nat.le_of_ble_eq_true rfl, Nat.le_of_ble_eq_true rfl⟩) ⟨c_pre_call, va_recv hK hPc (ci := 3) (q0 := 0) rfl rfl, c_pre_mk hPc hDc hK hN _⟩ rfl rfl hl.1 rfl (lv_room (Nat.le_of_ble_eq_true rfl)) d_Tank_breakDown_23 ⟨Nat.le_of_ble_eq_true rfl, Nat.le_of_ble_eq_true rfl⟩) (fun r23 u H23 locs w23 hz1 hP hD hS => ?_)
  have hP := hP.sub (ws' := [(aK, .inr (3, [.ref bK1, .ref bK2, .int sb, .long cam, .long gma])), (bK1, .inl (cL, 4, .inr (.inl gr))), (bK2, .inl (cI, 3, .inl rt))]) [0, 1, 2] rfl
  have hD := hD.sub (ws' := [(aK, .inr (3, [.ref bK1, .ref bK2, .int sb, .long cam, .long gma])), (bK1, .inl (cL, 4, .inr (.inl gr))), (bK2, .inl (cI, 3, .inl rt))]) [0, 1, 2] (by decide) rfl
  refine lv_lstore (lv' := [(7, .long r23), (5, .long r15), (3, .long r8), (1, .long r1), (0, .ref aK)]) hx hb d_Tank_breakDown_26 hl (by decide) rfl (fun ls hl => ?_)
  refine lv_aload_n hx hb d_Tank_breakDown_28 rfl (lv_at hl 4 rfl) ?_
  refine va_get (D := (dC, dI)) (ci := 3) (v := .ref bK1) (C := R_Tank) (T := F_Tank) (N := 5) hx hb hwg iu_Tank hown hK hP 0 rfl rfl 0 (by decide) (hwg _ kw_55) (fun _ h9 => h9) rfl d_Tank_breakDown_29 ?_
  refine lv_iconst (v := 0) hx hb d_Tank_breakDown_32 (by decide) ?_
  refine lv_dup2_11 hx hb d_Tank_breakDown_33 rfl rfl ?_
  refine va_lald hx hb hK hP 1 1 rfl rfl (by unfold vp_in; decide) d_Tank_breakDown_34 ?_
  refine lv_lload_n hx hb d_Tank_breakDown_35 rfl (lv_at hl 2 rfl) ?_
  refine lv_lsub hx hb d_Tank_breakDown_36 ?_
  refine va_last hx hb hK hP hD hS 1 1 rfl rfl (by unfold vp_in; decide) d_Tank_breakDown_37 (fun H37 locs hP hD hS => ?_)
  have hP : va_P (dC, dI) vwCl [(aK, .inr (3, [.ref bK1, .ref bK2, .int sb, .long cam, .long gma])), (bK1, .inl (cL, 4, .inr (.inl (vp_updL gr 0 ((gr 0) - r8))))), (bK2, .inl (cI, 3, .inl rt))] H37 := hP
  have hD : va_D A [(aK, .inr (3, [.ref bK1, .ref bK2, .int sb, .long cam, .long gma])), (bK1, .inl (cL, 4, .inr (.inl (vp_updL gr 0 ((gr 0) - r8))))), (bK2, .inl (cI, 3, .inl rt))] := hD
  refine lv_aload_n hx hb d_Tank_breakDown_38 rfl (lv_at hl 4 rfl) ?_
  refine va_get (D := (dC, dI)) (ci := 3) (v := .ref bK1) (C := R_Tank) (T := F_Tank) (N := 5) hx hb hwg iu_Tank hown hK hP 0 rfl rfl 0 (by decide) (hwg _ kw_55) (fun _ h9 => h9) rfl d_Tank_breakDown_39 ?_
  refine lv_iconst (v := 1) hx hb d_Tank_breakDown_42 (by decide) ?_
  refine lv_dup2_11 hx hb d_Tank_breakDown_43 rfl rfl ?_
  refine va_lald hx hb hK hP 1 1 rfl rfl (by unfold vp_in; decide) d_Tank_breakDown_44 ?_
  refine lv_lload_n hx hb d_Tank_breakDown_45 rfl (lv_at hl 2 rfl) ?_
  refine lv_lload hx hb d_Tank_breakDown_46 (lv_at hl 1 rfl) ?_
  refine lv_lsub hx hb d_Tank_breakDown_48 ?_
  refine lv_ladd hx hb d_Tank_breakDown_49 ?_
  refine va_last hx hb hK hP hD hS 1 1 rfl rfl (by unfold vp_in; decide) d_Tank_breakDown_50 (fun H50 locs hP hD hS => ?_)
  have hP : va_P (dC, dI) vwCl [(aK, .inr (3, [.ref bK1, .ref bK2, .int sb, .long cam, .long gma])), (bK1, .inl (cL, 4, .inr (.inl (vp_updL (vp_updL gr 0 ((gr 0) - r8)) 1 (((vp_updL gr 0 ((gr 0) - r8)) 1) + (r8 - r15)))))), (bK2, .inl (cI, 3, .inl rt))] H50 := hP
  have hD : va_D A [(aK, .inr (3, [.ref bK1, .ref bK2, .int sb, .long cam, .long gma])), (bK1, .inl (cL, 4, .inr (.inl (vp_updL (vp_updL gr 0 ((gr 0) - r8)) 1 (((vp_updL gr 0 ((gr 0) - r8)) 1) + (r8 - r15)))))), (bK2, .inl (cI, 3, .inl rt))] := hD
  refine lv_aload_n hx hb d_Tank_breakDown_51 rfl (lv_at hl 4 rfl) ?_
  refine va_get (D := (dC, dI)) (ci := 3) (v := .ref bK1) (C := R_Tank) (T := F_Tank) (N := 5) hx hb hwg iu_Tank hown hK hP 0 rfl rfl 0 (by decide) (hwg _ kw_55) (fun _ h9 => h9) rfl d_Tank_breakDown_52 ?_
  refine lv_iconst (v := 2) hx hb d_Tank_breakDown_55 (by decide) ?_
  refine lv_dup2_11 hx hb d_Tank_breakDown_56 rfl rfl ?_
  refine va_lald hx hb hK hP 1 1 rfl rfl (by unfold vp_in; decide) d_Tank_breakDown_57 ?_
  refine lv_lload hx hb d_Tank_breakDown_58 (lv_at hl 1 rfl) ?_
  refine lv_lload hx hb d_Tank_breakDown_60 (lv_at hl 0 rfl) ?_
  refine lv_lsub hx hb d_Tank_breakDown_62 ?_
  refine lv_ladd hx hb d_Tank_breakDown_63 ?_
  refine va_last hx hb hK hP hD hS 1 1 rfl rfl (by unfold vp_in; decide) d_Tank_breakDown_64 (fun H64 locs hP hD hS => ?_)
  have hP : va_P (dC, dI) vwCl [(aK, .inr (3, [.ref bK1, .ref bK2, .int sb, .long cam, .long gma])), (bK1, .inl (cL, 4, .inr (.inl (vp_updL (vp_updL (vp_updL gr 0 ((gr 0) - r8)) 1 (((vp_updL gr 0 ((gr 0) - r8)) 1) + (r8 - r15))) 2 (((vp_updL (vp_updL gr 0 ((gr 0) - r8)) 1 (((vp_updL gr 0 ((gr 0) - r8)) 1) + (r8 - r15))) 2) + (r15 - r23)))))), (bK2, .inl (cI, 3, .inl rt))] H64 := hP
  have hD : va_D A [(aK, .inr (3, [.ref bK1, .ref bK2, .int sb, .long cam, .long gma])), (bK1, .inl (cL, 4, .inr (.inl (vp_updL (vp_updL (vp_updL gr 0 ((gr 0) - r8)) 1 (((vp_updL gr 0 ((gr 0) - r8)) 1) + (r8 - r15))) 2 (((vp_updL (vp_updL gr 0 ((gr 0) - r8)) 1 (((vp_updL gr 0 ((gr 0) - r8)) 1) + (r8 - r15))) 2) + (r15 - r23)))))), (bK2, .inl (cI, 3, .inl rt))] := hD
  refine lv_aload_n hx hb d_Tank_breakDown_65 rfl (lv_at hl 4 rfl) ?_
  refine lv_dup hx hb d_Tank_breakDown_66 rfl ?_
  refine va_get (D := (dC, dI)) (ci := 3) (v := .long gma) (C := R_Tank) (T := F_Tank) (N := 5) hx hb hwg iu_Tank hown hK hP 0 rfl rfl 4 (by decide) (hwg _ kw_59) (fun _ h9 => h9) rfl d_Tank_breakDown_67 ?_
  refine lv_lload hx hb d_Tank_breakDown_70 (lv_at hl 0 rfl) ?_
  refine lv_ladd hx hb d_Tank_breakDown_72 ?_
  refine va_put (D := (dC, dI)) (ci := 3) (v := .long (gma + r23)) (ty := .long) (C := R_Tank) (T := F_Tank) (N := 5) hx hb hwg iu_Tank t_Tank t_Tank_ok n_Tank hown hK hP hD hS 0 rfl rfl 4 (by decide) (hwg _ kw_59) (fun _ h9 => h9) rfl (by decide +kernel) rfl rfl (Nat.le_of_ble_eq_true rfl) d_Tank_breakDown_73 (fun H73 locs hP hD hS => ?_)
  have hP : va_P (dC, dI) vwCl [(aK, .inr (3, [.ref bK1, .ref bK2, .int sb, .long cam, .long (gma + r23)])), (bK1, .inl (cL, 4, .inr (.inl (vp_updL (vp_updL (vp_updL gr 0 ((gr 0) - r8)) 1 (((vp_updL gr 0 ((gr 0) - r8)) 1) + (r8 - r15))) 2 (((vp_updL (vp_updL gr 0 ((gr 0) - r8)) 1 (((vp_updL gr 0 ((gr 0) - r8)) 1) + (r8 - r15))) 2) + (r15 - r23)))))), (bK2, .inl (cI, 3, .inl rt))] H73 := hP
  have hD : va_D A [(aK, .inr (3, [.ref bK1, .ref bK2, .int sb, .long cam, .long (gma + r23)])), (bK1, .inl (cL, 4, .inr (.inl (vp_updL (vp_updL (vp_updL gr 0 ((gr 0) - r8)) 1 (((vp_updL gr 0 ((gr 0) - r8)) 1) + (r8 - r15))) 2 (((vp_updL (vp_updL gr 0 ((gr 0) - r8)) 1 (((vp_updL gr 0 ((gr 0) - r8)) 1) + (r8 - r15))) 2) + (r15 - r23)))))), (bK2, .inl (cI, 3, .inl rt))] := hD
  refine lv_lload hx hb d_Tank_breakDown_76 (lv_at hl 0 rfl) ?_
  have hP9 := hP.sub (ws' := [(aK, .inr (3, [.ref bK1, .ref bK2, .int sb, .long cam, .long (gma + r23)])), (bK1, .inl (cL, 4, .inr (.inl (vp_updL (vp_updL (vp_updL gr 0 ((gr 0) - r8)) 1 (((vp_updL gr 0 ((gr 0) - r8)) 1) + (r8 - r15))) 2 (((vp_updL (vp_updL gr 0 ((gr 0) - r8)) 1 (((vp_updL gr 0 ((gr 0) - r8)) 1) + (r8 - r15))) 2) + (r15 - r23)))))), (bK2, .inl (cI, 3, .inl rt))]) [0, 1, 2] rfl
  have hD9 := hD.sub (ws' := [(aK, .inr (3, [.ref bK1, .ref bK2, .int sb, .long cam, .long (gma + r23)])), (bK1, .inl (cL, 4, .inr (.inl (vp_updL (vp_updL (vp_updL gr 0 ((gr 0) - r8)) 1 (((vp_updL gr 0 ((gr 0) - r8)) 1) + (r8 - r15))) 2 (((vp_updL (vp_updL gr 0 ((gr 0) - r8)) 1 (((vp_updL gr 0 ((gr 0) - r8)) 1) + (r8 - r15))) 2) + (r15 - r23)))))), (bK2, .inl (cI, 3, .inl rt))]) [0, 1, 2] (by decide) rfl
  exact W.lret (v := r23) hx hb hr (fun t ht hW => ⟨⟨r23, (gma + r23, vp_updL (vp_updL (vp_updL gr 0 ((gr 0) - r8)) 1 (((vp_updL gr 0 ((gr 0) - r8)) 1) + (r8 - r15))) 2 (((vp_updL (vp_updL gr 0 ((gr 0) - r8)) 1 (((vp_updL gr 0 ((gr 0) - r8)) 1) + (r8 - r15))) 2) + (r15 - r23))), rfl, by simp only [f_Tank_breakDown, w1, w8, w15, w23], by rw [ht]; exact hP9, hD9⟩, hS.F ht⟩) hS.2.2 d_Tank_breakDown_78
def f_Tank_allParts (gr : Nat → Int64) : Int64 := (((0 + (gr 0)) + (gr 1)) + (gr 2)) + (gr 3)
abbrev rm_Tank_allParts : Room := { frames := 0, cells := 0, slots := 0, locals := 0 }
set_option maxHeartbeats 4000000 in
set_option maxRecDepth 100000 in
theorem c_Tank_allParts (l : Launch) (dC : Nat → ClassId) (dI : Nat → Nat → Nat) (cI cL cZ : ClassId) (aK bK1 bK2 : Nat) (sz : Nat) (sb : Int32) (cam : Int64) (gma : Int64) (gr : Nat → Int64) : Met l y_Tank_allParts w_Tank_allParts rm_Tank_allParts (va_Pc [.ref aK] (c_pre dC dI cI cL cZ [(aK, .inr (3, [.ref bK1, .ref bK2, .int sb, .long cam, .long gma])), (bK1, .inl (cL, 4, .inr (.inl gr)))] sz)) (va_Ql (fun (r : Int64) (_ : Unit) => f_Tank_allParts gr = r) (c_post dC dI (fun (u : Unit) => [(aK, .inr (3, [.ref bK1, .ref bK2, .int sb, .long cam, .long gma])), (bK1, .inl (cL, 4, .inr (.inl gr)))]) (va_A [(aK, .inr (3, [.ref bK1, .ref bK2, .int sb, .long cam, .long gma])), (bK1, .inl (cL, 4, .inr (.inl gr)))] sz)) (va_A [(aK, .inr (3, [.ref bK1, .ref bK2, .int sb, .long cam, .long gma])), (bK1, .inl (cL, 4, .inr (.inl gr)))] sz)) 0 0 (va_A [(aK, .inr (3, [.ref bK1, .ref bK2, .int sb, .long cam, .long gma])), (bK1, .inl (cL, 4, .inr (.inl gr)))] sz) := by
  refine Met.ofW (cc := b_Tank_allParts) (maxL := 4) (ret := (some .long)) (by decide) rfl ?_
  intro p e s m args below meth c s₁ B hml hv
  obtain ⟨rfl, hsz, hP, hK, hN, hD0⟩ := hv
  have hx := B.exec
  have hb := B.bytes
  have hr := B.returns
  have hts := atoms_spec (ws := w_Tank_allParts) B.pre
  have hown : s.vm.findClass R_Tank = some m.cls := findClass_of_methodNamed B.named
  have hlocks := B.notSynchronized
  have hwg : ∀ w ∈ wg, w.before ([.ref aK] : List Value).toArray s = true := fun w h => hts w (List.mem_cons_of_mem _ h)
  subst hsz
  have hD := hD0.self (sz := s.heap.size)
  generalize hAe : va_A [(aK, .inr (3, [.ref bK1, .ref bK2, .int sb, .long cam, .long gma])), (bK1, .inl (cL, 4, .inr (.inl gr)))] s.heap.size = A at hD ⊢
  have hA : ∀ q : Nat, s.heap.size ≤ q → A q := fun q h => by rw [← hAe]; exact Or.inr h
  have hS : va_S A s.heap s.heap [] := va_S.rf
  have hP : va_P (dC, dI) vwCl [(aK, .inr (3, [.ref bK1, .ref bK2, .int sb, .long cam, .long gma])), (bK1, .inl (cL, 4, .inr (.inl gr)))] s.heap := hP
  have hl := lv_entry ([.ref aK]) (n := 4) (Nat.le_of_ble_eq_true rfl)
  rw [lg_entry_eq]
  generalize (lg_sl ([.ref aK]) ++ List.replicate (4 - (lg_sl ([.ref aK])).length) Slot.unset).toArray = ls at hl ⊢
  have hl : lv_has ls 4 [(0, .ref aK)] := hl
  refine lv_lconst (v := 0) hx hb d_Tank_allParts_0 (by decide) ?_
  refine lv_lstore_n (lv' := [(1, .long 0), (0, .ref aK)]) hx hb d_Tank_allParts_1 rfl hl (by decide) rfl (fun ls hl => ?_)
  refine lv_iconst (v := 0) hx hb d_Tank_allParts_2 (by decide) ?_
  refine lv_istore_n (lv' := [(3, .int 0), (1, .long 0), (0, .ref aK)]) hx hb d_Tank_allParts_3 rfl hl (by decide) rfl (fun ls hl => ?_)
  refine lv_iload_n hx hb d_Tank_allParts_4 rfl (lv_at hl 0 rfl) ?_
  refine lv_iconst (v := 4) hx hb d_Tank_allParts_5 (by decide) ?_
  refine lv_icmp_ge (tgt := 24) hx hb d_Tank_allParts_6 (by decide) (fun c6 => ?_) (fun c6 => ?_)
  · exact absurd c6 (by decide)
  refine lv_lload_n hx hb d_Tank_allParts_9 rfl (lv_at hl 1 rfl) ?_
  refine lv_aload_n hx hb d_Tank_allParts_10 rfl (lv_at hl 2 rfl) ?_
  refine va_get (D := (dC, dI)) (ci := 3) (v := .ref bK1) (C := R_Tank) (T := F_Tank) (N := 5) hx hb hwg iu_Tank hown hK hP 0 rfl rfl 0 (by decide) (hwg _ kw_55) (fun _ h9 => h9) rfl d_Tank_allParts_11 ?_
  refine lv_iload_n hx hb d_Tank_allParts_14 rfl (lv_at hl 0 rfl) ?_
  refine va_lald hx hb hK hP 1 1 rfl rfl (by unfold vp_in; decide) d_Tank_allParts_15 ?_
  refine lv_ladd hx hb d_Tank_allParts_16 ?_
  refine lv_lstore_n (lv' := [(1, .long (0 + (gr 0))), (3, .int 0), (0, .ref aK)]) hx hb d_Tank_allParts_17 rfl hl (by decide) rfl (fun ls hl => ?_)
  refine lv_iinc (v := 1) (lv' := [(3, .int 1), (1, .long (0 + (gr 0))), (0, .ref aK)]) hx hb d_Tank_allParts_18 hl (k := 1) rfl (by decide) (by decide) rfl (fun ls hl => ?_)
  refine lv_goto (tgt := 4) hx hb d_Tank_allParts_21 (by decide) ?_
  refine lv_iload_n hx hb d_Tank_allParts_4 rfl (lv_at hl 0 rfl) ?_
  refine lv_iconst (v := 4) hx hb d_Tank_allParts_5 (by decide) ?_
  refine lv_icmp_ge (tgt := 24) hx hb d_Tank_allParts_6 (by decide) (fun c6_2 => ?_) (fun c6_2 => ?_)
  · exact absurd c6_2 (by decide)
  refine lv_lload_n hx hb d_Tank_allParts_9 rfl (lv_at hl 1 rfl) ?_
  refine lv_aload_n hx hb d_Tank_allParts_10 rfl (lv_at hl 2 rfl) ?_
  refine va_get (D := (dC, dI)) (ci := 3) (v := .ref bK1) (C := R_Tank) (T := F_Tank) (N := 5) hx hb hwg iu_Tank hown hK hP 0 rfl rfl 0 (by decide) (hwg _ kw_55) (fun _ h9 => h9) rfl d_Tank_allParts_11 ?_
  refine lv_iload_n hx hb d_Tank_allParts_14 rfl (lv_at hl 0 rfl) ?_
  refine va_lald hx hb hK hP 1 1 rfl rfl (by unfold vp_in; decide) d_Tank_allParts_15 ?_
  refine lv_ladd hx hb d_Tank_allParts_16 ?_
  refine lv_lstore_n (lv' := [(1, .long ((0 + (gr 0)) + (gr 1))), (3, .int 1), (0, .ref aK)]) hx hb d_Tank_allParts_17 rfl hl (by decide) rfl (fun ls hl => ?_)
  refine lv_iinc (v := 2) (lv' := [(3, .int 2), (1, .long ((0 + (gr 0)) + (gr 1))), (0, .ref aK)]) hx hb d_Tank_allParts_18 hl (k := 1) rfl (by decide) (by decide) rfl (fun ls hl => ?_)
  refine lv_goto (tgt := 4) hx hb d_Tank_allParts_21 (by decide) ?_
  refine lv_iload_n hx hb d_Tank_allParts_4 rfl (lv_at hl 0 rfl) ?_
  refine lv_iconst (v := 4) hx hb d_Tank_allParts_5 (by decide) ?_
  refine lv_icmp_ge (tgt := 24) hx hb d_Tank_allParts_6 (by decide) (fun c6_3 => ?_) (fun c6_3 => ?_)
  · exact absurd c6_3 (by decide)
  refine lv_lload_n hx hb d_Tank_allParts_9 rfl (lv_at hl 1 rfl) ?_
  refine lv_aload_n hx hb d_Tank_allParts_10 rfl (lv_at hl 2 rfl) ?_
  refine va_get (D := (dC, dI)) (ci := 3) (v := .ref bK1) (C := R_Tank) (T := F_Tank) (N := 5) hx hb hwg iu_Tank hown hK hP 0 rfl rfl 0 (by decide) (hwg _ kw_55) (fun _ h9 => h9) rfl d_Tank_allParts_11 ?_
  refine lv_iload_n hx hb d_Tank_allParts_14 rfl (lv_at hl 0 rfl) ?_
  refine va_lald hx hb hK hP 1 1 rfl rfl (by unfold vp_in; decide) d_Tank_allParts_15 ?_
  refine lv_ladd hx hb d_Tank_allParts_16 ?_
  refine lv_lstore_n (lv' := [(1, .long (((0 + (gr 0)) + (gr 1)) + (gr 2))), (3, .int 2), (0, .ref aK)]) hx hb d_Tank_allParts_17 rfl hl (by decide) rfl (fun ls hl => ?_)
  refine lv_iinc (v := 3) (lv' := [(3, .int 3), (1, .long (((0 + (gr 0)) + (gr 1)) + (gr 2))), (0, .ref aK)]) hx hb d_Tank_allParts_18 hl (k := 1) rfl (by decide) (by decide) rfl (fun ls hl => ?_)
  refine lv_goto (tgt := 4) hx hb d_Tank_allParts_21 (by decide) ?_
  refine lv_iload_n hx hb d_Tank_allParts_4 rfl (lv_at hl 0 rfl) ?_
  refine lv_iconst (v := 4) hx hb d_Tank_allParts_5 (by decide) ?_
  refine lv_icmp_ge (tgt := 24) hx hb d_Tank_allParts_6 (by decide) (fun c6_4 => ?_) (fun c6_4 => ?_)
  · exact absurd c6_4 (by decide)
  refine lv_lload_n hx hb d_Tank_allParts_9 rfl (lv_at hl 1 rfl) ?_
  refine lv_aload_n hx hb d_Tank_allParts_10 rfl (lv_at hl 2 rfl) ?_
  refine va_get (D := (dC, dI)) (ci := 3) (v := .ref bK1) (C := R_Tank) (T := F_Tank) (N := 5) hx hb hwg iu_Tank hown hK hP 0 rfl rfl 0 (by decide) (hwg _ kw_55) (fun _ h9 => h9) rfl d_Tank_allParts_11 ?_
  refine lv_iload_n hx hb d_Tank_allParts_14 rfl (lv_at hl 0 rfl) ?_
  refine va_lald hx hb hK hP 1 1 rfl rfl (by unfold vp_in; decide) d_Tank_allParts_15 ?_
  refine lv_ladd hx hb d_Tank_allParts_16 ?_
  refine lv_lstore_n (lv' := [(1, .long ((((0 + (gr 0)) + (gr 1)) + (gr 2)) + (gr 3))), (3, .int 3), (0, .ref aK)]) hx hb d_Tank_allParts_17 rfl hl (by decide) rfl (fun ls hl => ?_)
  refine lv_iinc (v := 4) (lv' := [(3, .int 4), (1, .long ((((0 + (gr 0)) + (gr 1)) + (gr 2)) + (gr 3))), (0, .ref aK)]) hx hb d_Tank_allParts_18 hl (k := 1) rfl (by decide) (by decide) rfl (fun ls hl => ?_)
  refine lv_goto (tgt := 4) hx hb d_Tank_allParts_21 (by decide) ?_
  refine lv_iload_n hx hb d_Tank_allParts_4 rfl (lv_at hl 0 rfl) ?_
  refine lv_iconst (v := 4) hx hb d_Tank_allParts_5 (by decide) ?_
  refine lv_icmp_ge (tgt := 24) hx hb d_Tank_allParts_6 (by decide) (fun c6_5 => ?_) (fun c6_5 => ?_)
  rotate_left
  · exact absurd c6_5 (by decide)
  refine lv_lload_n hx hb d_Tank_allParts_24 rfl (lv_at hl 1 rfl) ?_
  have hP9 := hP.sub (ws' := [(aK, .inr (3, [.ref bK1, .ref bK2, .int sb, .long cam, .long gma])), (bK1, .inl (cL, 4, .inr (.inl gr)))]) [0, 1] rfl
  have hD9 := hD.sub (ws' := [(aK, .inr (3, [.ref bK1, .ref bK2, .int sb, .long cam, .long gma])), (bK1, .inl (cL, 4, .inr (.inl gr)))]) [0, 1] (by decide) rfl
  exact W.lret (v := (((0 + (gr 0)) + (gr 1)) + (gr 2)) + (gr 3)) hx hb hr (fun t ht hW => ⟨⟨(((0 + (gr 0)) + (gr 1)) + (gr 2)) + (gr 3), (), rfl, by simp only [f_Tank_allParts], by rw [ht]; exact hP9, hD9⟩, hS.F ht⟩) hS.2.2 d_Tank_allParts_25
def f_Tank_isSour (gr : Nat → Int64) (p1 : Int64) : Int32 := if 0 < (lg_cmp p1 1000000) then (0) else (if 0 < (lg_cmp ((p1 * p1) + (p1 * (gr 3))) (1000 * (gr 2))) then (0) else (1))
abbrev rm_Tank_isSour : Room := { frames := 0, cells := 0, slots := 0, locals := 0 }
set_option maxHeartbeats 4000000 in
set_option maxRecDepth 100000 in
theorem c_Tank_isSour (l : Launch) (dC : Nat → ClassId) (dI : Nat → Nat → Nat) (cI cL cZ : ClassId) (aK bK1 bK2 : Nat) (sz : Nat) (sb : Int32) (cam : Int64) (gma : Int64) (gr : Nat → Int64) (p1 : Int64) : Met l y_Tank_isSour w_Tank_isSour rm_Tank_isSour (va_Pc [.ref aK, .long p1] (c_pre dC dI cI cL cZ [(aK, .inr (3, [.ref bK1, .ref bK2, .int sb, .long cam, .long gma])), (bK1, .inl (cL, 4, .inr (.inl gr)))] sz)) (va_Qi (fun (r : Int32) (_ : Unit) => f_Tank_isSour gr p1 = r) (c_post dC dI (fun (u : Unit) => [(aK, .inr (3, [.ref bK1, .ref bK2, .int sb, .long cam, .long gma])), (bK1, .inl (cL, 4, .inr (.inl gr)))]) (va_A [(aK, .inr (3, [.ref bK1, .ref bK2, .int sb, .long cam, .long gma])), (bK1, .inl (cL, 4, .inr (.inl gr)))] sz)) (va_A [(aK, .inr (3, [.ref bK1, .ref bK2, .int sb, .long cam, .long gma])), (bK1, .inl (cL, 4, .inr (.inl gr)))] sz)) 0 0 (va_A [(aK, .inr (3, [.ref bK1, .ref bK2, .int sb, .long cam, .long gma])), (bK1, .inl (cL, 4, .inr (.inl gr)))] sz) := by
  refine Met.ofW (cc := b_Tank_isSour) (maxL := 3) (ret := (some .boolean)) (by decide) rfl ?_
  intro p e s m args below meth c s₁ B hml hv
  obtain ⟨rfl, hsz, hP, hK, hN, hD0⟩ := hv
  have hx := B.exec
  have hb := B.bytes
  have hr := B.returns
  have hts := atoms_spec (ws := w_Tank_isSour) B.pre
  have hown : s.vm.findClass R_Tank = some m.cls := findClass_of_methodNamed B.named
  have hlocks := B.notSynchronized
  have hwg : ∀ w ∈ wg, w.before ([.ref aK, .long p1] : List Value).toArray s = true := fun w h => hts w (List.mem_cons_of_mem _ h)
  subst hsz
  have hD := hD0.self (sz := s.heap.size)
  generalize hAe : va_A [(aK, .inr (3, [.ref bK1, .ref bK2, .int sb, .long cam, .long gma])), (bK1, .inl (cL, 4, .inr (.inl gr)))] s.heap.size = A at hD ⊢
  have hA : ∀ q : Nat, s.heap.size ≤ q → A q := fun q h => by rw [← hAe]; exact Or.inr h
  have hS : va_S A s.heap s.heap [] := va_S.rf
  have hP : va_P (dC, dI) vwCl [(aK, .inr (3, [.ref bK1, .ref bK2, .int sb, .long cam, .long gma])), (bK1, .inl (cL, 4, .inr (.inl gr)))] s.heap := hP
  have hl := lv_entry ([.ref aK, .long p1]) (n := 3) (Nat.le_of_ble_eq_true rfl)
  rw [lg_entry_eq]
  generalize (lg_sl ([.ref aK, .long p1]) ++ List.replicate (3 - (lg_sl ([.ref aK, .long p1])).length) Slot.unset).toArray = ls at hl ⊢
  have hl : lv_has ls 3 [(0, .ref aK), (1, .long p1)] := hl
  refine lv_lload_n hx hb d_Tank_isSour_0 rfl (lv_at hl 1 rfl) ?_
  refine lv_ldc2 hx hb hown (hwg _ kw_266) d_Tank_isSour_1 ?_
  refine W.lcmp hx hb d_Tank_isSour_4 ?_
  refine lv_if_gt (tgt := 38) hx hb d_Tank_isSour_5 (by decide) (fun (c5 : 0 < (lg_cmp p1 1000000)) => ?_) (fun (c5 : ¬ (0 < (lg_cmp p1 1000000))) => ?_)
  · refine lv_iconst (v := 0) hx hb d_Tank_isSour_38 (by decide) ?_
    have hP9 := hP.sub (ws' := [(aK, .inr (3, [.ref bK1, .ref bK2, .int sb, .long cam, .long gma])), (bK1, .inl (cL, 4, .inr (.inl gr)))]) [0, 1] rfl
    have hD9 := hD.sub (ws' := [(aK, .inr (3, [.ref bK1, .ref bK2, .int sb, .long cam, .long gma])), (bK1, .inl (cL, 4, .inr (.inl gr)))]) [0, 1] (by decide) rfl
    exact W.zret (ty := .boolean) (v := 0) hx hb hr rfl (fun t ht hW => ⟨⟨0, (), rfl, by simp only [f_Tank_isSour, if_pos c5], by rw [ht]; exact hP9, hD9⟩, hS.F ht⟩) hS.2.2 d_Tank_isSour_39
  · refine lv_lload_n hx hb d_Tank_isSour_8 rfl (lv_at hl 1 rfl) ?_
    refine lv_lload_n hx hb d_Tank_isSour_9 rfl (lv_at hl 1 rfl) ?_
    refine lv_lmul hx hb d_Tank_isSour_10 ?_
    refine lv_lload_n hx hb d_Tank_isSour_11 rfl (lv_at hl 1 rfl) ?_
    refine lv_aload_n hx hb d_Tank_isSour_12 rfl (lv_at hl 0 rfl) ?_
    refine va_get (D := (dC, dI)) (ci := 3) (v := .ref bK1) (C := R_Tank) (T := F_Tank) (N := 5) hx hb hwg iu_Tank hown hK hP 0 rfl rfl 0 (by decide) (hwg _ kw_55) (fun _ h9 => h9) rfl d_Tank_isSour_13 ?_
    refine lv_iconst (v := 3) hx hb d_Tank_isSour_16 (by decide) ?_
    refine va_lald hx hb hK hP 1 1 rfl rfl (by unfold vp_in; decide) d_Tank_isSour_17 ?_
    refine lv_lmul hx hb d_Tank_isSour_18 ?_
    refine lv_ladd hx hb d_Tank_isSour_19 ?_
    refine lv_ldc2 hx hb hown (hwg _ kw_208) d_Tank_isSour_20 ?_
    refine lv_aload_n hx hb d_Tank_isSour_23 rfl (lv_at hl 0 rfl) ?_
    refine va_get (D := (dC, dI)) (ci := 3) (v := .ref bK1) (C := R_Tank) (T := F_Tank) (N := 5) hx hb hwg iu_Tank hown hK hP 0 rfl rfl 0 (by decide) (hwg _ kw_55) (fun _ h9 => h9) rfl d_Tank_isSour_24 ?_
    refine lv_iconst (v := 2) hx hb d_Tank_isSour_27 (by decide) ?_
    refine va_lald hx hb hK hP 1 1 rfl rfl (by unfold vp_in; decide) d_Tank_isSour_28 ?_
    refine lv_lmul hx hb d_Tank_isSour_29 ?_
    refine W.lcmp hx hb d_Tank_isSour_30 ?_
    refine lv_if_gt (tgt := 38) hx hb d_Tank_isSour_31 (by decide) (fun (c31 : 0 < (lg_cmp ((p1 * p1) + (p1 * (gr 3))) (1000 * (gr 2)))) => ?_) (fun (c31 : ¬ (0 < (lg_cmp ((p1 * p1) + (p1 * (gr 3))) (1000 * (gr 2))))) => ?_)
    · refine lv_iconst (v := 0) hx hb d_Tank_isSour_38 (by decide) ?_
      have hP9 := hP.sub (ws' := [(aK, .inr (3, [.ref bK1, .ref bK2, .int sb, .long cam, .long gma])), (bK1, .inl (cL, 4, .inr (.inl gr)))]) [0, 1] rfl
      have hD9 := hD.sub (ws' := [(aK, .inr (3, [.ref bK1, .ref bK2, .int sb, .long cam, .long gma])), (bK1, .inl (cL, 4, .inr (.inl gr)))]) [0, 1] (by decide) rfl
      exact W.zret (ty := .boolean) (v := 0) hx hb hr rfl (fun t ht hW => ⟨⟨0, (), rfl, by simp only [f_Tank_isSour, if_neg c5, if_pos c31], by rw [ht]; exact hP9, hD9⟩, hS.F ht⟩) hS.2.2 d_Tank_isSour_39
    · refine lv_iconst (v := 1) hx hb d_Tank_isSour_34 (by decide) ?_
      refine lv_goto (tgt := 39) hx hb d_Tank_isSour_35 (by decide) ?_
      have hP9 := hP.sub (ws' := [(aK, .inr (3, [.ref bK1, .ref bK2, .int sb, .long cam, .long gma])), (bK1, .inl (cL, 4, .inr (.inl gr)))]) [0, 1] rfl
      have hD9 := hD.sub (ws' := [(aK, .inr (3, [.ref bK1, .ref bK2, .int sb, .long cam, .long gma])), (bK1, .inl (cL, 4, .inr (.inl gr)))]) [0, 1] (by decide) rfl
      exact W.zret (ty := .boolean) (v := 1) hx hb hr rfl (fun t ht hW => ⟨⟨1, (), rfl, by simp only [f_Tank_isSour, if_neg c5, if_neg c31], by rw [ht]; exact hP9, hD9⟩, hS.F ht⟩) hS.2.2 d_Tank_isSour_39
def f_Tank_sourness_L5 (gr : Nat → Int64) : Nat → Int32 → Int32 → Int32
  | 0, _, _ => 0
  | n + 1, y, jp => if jp ≤ 0 then (y) else (let r14 := f_Tank_isSour gr (Int32.toInt64 (y + jp)); if r14 = 0 then (f_Tank_sourness_L5 gr n y (jp >>> ((1 : Int32) &&& 31))) else (f_Tank_sourness_L5 gr n (y + jp) (jp >>> ((1 : Int32) &&& 31))))
def f_Tank_sourness (gr : Nat → Int64) : Int32 := f_Tank_sourness_L5 gr 524289 0 524288
abbrev rm_Tank_sourness : Room := { frames := 1, cells := 0, slots := 0, locals := 22 }
set_option maxHeartbeats 4000000 in
set_option maxRecDepth 100000 in
theorem c_Tank_sourness (l : Launch) (dC : Nat → ClassId) (dI : Nat → Nat → Nat) (cI cL cZ : ClassId) (aK bK1 bK2 : Nat) (sz : Nat) (sb : Int32) (cam : Int64) (gma : Int64) (gr : Nat → Int64) : Met l y_Tank_sourness w_Tank_sourness rm_Tank_sourness (va_Pc [.ref aK] (c_pre dC dI cI cL cZ [(aK, .inr (3, [.ref bK1, .ref bK2, .int sb, .long cam, .long gma])), (bK1, .inl (cL, 4, .inr (.inl gr)))] sz)) (va_Qi (fun (r : Int32) (_ : Unit) => f_Tank_sourness gr = r) (c_post dC dI (fun (u : Unit) => [(aK, .inr (3, [.ref bK1, .ref bK2, .int sb, .long cam, .long gma])), (bK1, .inl (cL, 4, .inr (.inl gr)))]) (va_A [(aK, .inr (3, [.ref bK1, .ref bK2, .int sb, .long cam, .long gma])), (bK1, .inl (cL, 4, .inr (.inl gr)))] sz)) (va_A [(aK, .inr (3, [.ref bK1, .ref bK2, .int sb, .long cam, .long gma])), (bK1, .inl (cL, 4, .inr (.inl gr)))] sz)) 0 0 (va_A [(aK, .inr (3, [.ref bK1, .ref bK2, .int sb, .long cam, .long gma])), (bK1, .inl (cL, 4, .inr (.inl gr)))] sz) := by
  refine Met.ofW (cc := b_Tank_sourness) (maxL := 3) (ret := (some .int)) (by decide) rfl ?_
  intro p e s m args below meth c s₁ B hml hv
  obtain ⟨rfl, hsz, hP, hK, hN, hD0⟩ := hv
  have hx := B.exec
  have hb := B.bytes
  have hr := B.returns
  have hts := atoms_spec (ws := w_Tank_sourness) B.pre
  have hown : s.vm.findClass R_Tank = some m.cls := findClass_of_methodNamed B.named
  have hlocks := B.notSynchronized
  have hwg : ∀ w ∈ wg, w.before ([.ref aK] : List Value).toArray s = true := fun w h => hts w (List.mem_cons_of_mem _ h)
  subst hsz
  have hD := hD0.self (sz := s.heap.size)
  generalize hAe : va_A [(aK, .inr (3, [.ref bK1, .ref bK2, .int sb, .long cam, .long gma])), (bK1, .inl (cL, 4, .inr (.inl gr)))] s.heap.size = A at hD ⊢
  have hA : ∀ q : Nat, s.heap.size ≤ q → A q := fun q h => by rw [← hAe]; exact Or.inr h
  have hS : va_S A s.heap s.heap [] := va_S.rf
  have hP : va_P (dC, dI) vwCl [(aK, .inr (3, [.ref bK1, .ref bK2, .int sb, .long cam, .long gma])), (bK1, .inl (cL, 4, .inr (.inl gr)))] s.heap := hP
  have hl := lv_entry ([.ref aK]) (n := 3) (Nat.le_of_ble_eq_true rfl)
  rw [lg_entry_eq]
  generalize (lg_sl ([.ref aK]) ++ List.replicate (3 - (lg_sl ([.ref aK])).length) Slot.unset).toArray = ls at hl ⊢
  have hl : lv_has ls 3 [(0, .ref aK)] := hl
  refine lv_iconst (v := 0) hx hb d_Tank_sourness_0 (by decide) ?_
  refine lv_istore_n (lv' := [(1, .int 0), (0, .ref aK)]) hx hb d_Tank_sourness_1 rfl hl (by decide) rfl (fun ls hl => ?_)
  refine lv_ldc hx hb hown (hwg _ kw_262) d_Tank_sourness_2 ?_
  refine lv_istore_n (lv' := [(2, .int 524288), (1, .int 0), (0, .ref aK)]) hx hb d_Tank_sourness_4 rfl hl (by decide) rfl (fun ls hl => ?_)
  have loop5 : ∀ (n5 : Nat) (y : Int32) (jp : Int32) (H5 : Heap) (locs : List Loc) (ls : Array Slot), jp.toNatClampNeg < n5 → f_Tank_sourness gr = f_Tank_sourness_L5 gr n5 y jp → va_P (dC, dI) vwCl [(aK, .inr (3, [.ref bK1, .ref bK2, .int sb, .long cam, .long gma])), (bK1, .inl (cL, 4, .inr (.inl gr)))] H5 → va_D A [(aK, .inr (3, [.ref bK1, .ref bK2, .int sb, .long cam, .long gma])), (bK1, .inl (cL, 4, .inr (.inl gr)))] → va_S A s.heap H5 locs → lv_has ls 3 [(0, .ref aK), (1, .int y), (2, .int jp)] → W p l e (headSpec w_Tank_sourness rm_Tank_sourness).room s m ([.ref aK] : List Value).toArray below meth c H5 locs 0 0 (MQ below (va_Qi (fun (r : Int32) (_ : Unit) => f_Tank_sourness gr = r) (c_post dC dI (fun (u : Unit) => [(aK, .inr (3, [.ref bK1, .ref bK2, .int sb, .long cam, .long gma])), (bK1, .inl (cL, 4, .inr (.inl gr)))]) A) A) ([.ref aK] : List Value).toArray s 0 0 A) (F0 m 5 ls []) := by
    intro n5
    induction n5 with
    | zero => intro y jp H5 locs ls hm; exact absurd hm (Nat.not_lt_zero _)
    | succ n5 ih5 =>
      intro y jp H5 locs ls hm5  hF5 hP hD hS hl
      refine lv_iload_n hx hb d_Tank_sourness_5 rfl (lv_at hl 2 rfl) ?_
      refine lv_if_le (tgt := 31) hx hb d_Tank_sourness_6 (by decide) (fun (c6 : jp ≤ 0) => ?_) (fun (c6 : ¬ (jp ≤ 0)) => ?_)
      · refine lv_iload_n hx hb d_Tank_sourness_31 rfl (lv_at hl 1 rfl) ?_
        have hP9 := hP.sub (ws' := [(aK, .inr (3, [.ref bK1, .ref bK2, .int sb, .long cam, .long gma])), (bK1, .inl (cL, 4, .inr (.inl gr)))]) [0, 1] rfl
        have hD9 := hD.sub (ws' := [(aK, .inr (3, [.ref bK1, .ref bK2, .int sb, .long cam, .long gma])), (bK1, .inl (cL, 4, .inr (.inl gr)))]) [0, 1] (by decide) rfl
        exact W.iret (v := y) hx hb hr (fun t ht hW => ⟨⟨y, (), rfl, by rw [hF5]; simp only [f_Tank_sourness_L5, if_pos c6], by rw [ht]; exact hP9, hD9⟩, hS.F ht⟩) hS.2.2 d_Tank_sourness_32
      · refine lv_aload_n hx hb d_Tank_sourness_9 rfl (lv_at hl 0 rfl) ?_
        refine lv_iload_n hx hb d_Tank_sourness_10 rfl (lv_at hl 1 rfl) ?_
        refine lv_iload_n hx hb d_Tank_sourness_11 rfl (lv_at hl 2 rfl) ?_
        refine lv_iadd hx hb d_Tank_sourness_12 ?_
        refine lv_i2l hx hb d_Tank_sourness_13 rfl ?_
        have hPc := hP.sub (ws' := [(aK, .inr (3, [.ref bK1, .ref bK2, .int sb, .long cam, .long gma])), (bK1, .inl (cL, 4, .inr (.inl gr)))]) [0, 1] rfl
        have hDc := hD.sub (ws' := [(aK, .inr (3, [.ref bK1, .ref bK2, .int sb, .long cam, .long gma])), (bK1, .inl (cL, 4, .inr (.inl gr)))]) [0, 1] (by decide) rfl
        refine k_calli hP hD hS hA [0, 1] [] (wc := [(aK, .inr (3, [.ref bK1, .ref bK2, .int sb, .long cam, .long gma])), (bK1, .inl (cL, 4, .inr (.inl gr)))]) (wr := []) rfl rfl (by decide) (by decide) (va_runV (As := [.long (Int32.toInt64 (y + jp))]) (rest := []) ⟨hx, hb, hml, hown, hwg⟩ (c_Tank_isSour l dC dI cI cL cZ aK bK1 bK2 H5.size sb cam gma gr (Int32.toInt64 (y + jp))) (cwV 1 hwg (g_V kw_263 kw_264 kw_6 kw_17 kw_265) rfl rfl rfl (by decide +kernel) ⟨Nat.le_of_ble_eq_true rfl, Nat.le_of_ble_eq_true rfl⟩) ⟨c_pre_call, va_recv hK hPc (ci := 3) (q0 := 0) rfl rfl, c_pre_mk hPc hDc hK hN _⟩ rfl rfl hl.1 rfl (lv_room (Nat.le_of_ble_eq_true rfl)) d_Tank_sourness_14 ⟨Nat.le_of_ble_eq_true rfl, Nat.le_of_ble_eq_true rfl⟩) (fun r14 u H14 locs w14 hz1 hP hD hS => ?_)
        have hP := hP.sub (ws' := [(aK, .inr (3, [.ref bK1, .ref bK2, .int sb, .long cam, .long gma])), (bK1, .inl (cL, 4, .inr (.inl gr)))]) [0, 1] rfl
        have hD := hD.sub (ws' := [(aK, .inr (3, [.ref bK1, .ref bK2, .int sb, .long cam, .long gma])), (bK1, .inl (cL, 4, .inr (.inl gr)))]) [0, 1] (by decide) rfl
        refine lv_if_eq (tgt := 24) hx hb d_Tank_sourness_17 (by decide) (fun (c17 : r14 = 0) => ?_) (fun (c17 : ¬ (r14 = 0)) => ?_)
        · refine lv_iload_n hx hb d_Tank_sourness_24 rfl (lv_at hl 2 rfl) ?_
          refine lv_iconst (v := 1) hx hb d_Tank_sourness_25 (by decide) ?_
          refine lv_ishr hx hb d_Tank_sourness_26 ?_
          refine lv_istore_n (lv' := [(2, .int (jp >>> ((1 : Int32) &&& 31))), (0, .ref aK), (1, .int y)]) hx hb d_Tank_sourness_27 rfl hl (by decide) rfl (fun ls hl => ?_)
          refine lv_goto (tgt := 5) hx hb d_Tank_sourness_28 (by decide) ?_
          exact ih5 y (jp >>> ((1 : Int32) &&& 31)) _ _ _ (shr_lt c6 hm5)  (by rw [hF5]; simp only [f_Tank_sourness_L5, if_neg c6, w14, if_pos c17]) hP hD hS (lv_sub hl [1, 2, 0] rfl)
        · refine lv_iload_n hx hb d_Tank_sourness_20 rfl (lv_at hl 1 rfl) ?_
          refine lv_iload_n hx hb d_Tank_sourness_21 rfl (lv_at hl 2 rfl) ?_
          refine lv_iadd hx hb d_Tank_sourness_22 ?_
          refine lv_istore_n (lv' := [(1, .int (y + jp)), (0, .ref aK), (2, .int jp)]) hx hb d_Tank_sourness_23 rfl hl (by decide) rfl (fun ls hl => ?_)
          refine lv_iload_n hx hb d_Tank_sourness_24 rfl (lv_at hl 2 rfl) ?_
          refine lv_iconst (v := 1) hx hb d_Tank_sourness_25 (by decide) ?_
          refine lv_ishr hx hb d_Tank_sourness_26 ?_
          refine lv_istore_n (lv' := [(2, .int (jp >>> ((1 : Int32) &&& 31))), (1, .int (y + jp)), (0, .ref aK)]) hx hb d_Tank_sourness_27 rfl hl (by decide) rfl (fun ls hl => ?_)
          refine lv_goto (tgt := 5) hx hb d_Tank_sourness_28 (by decide) ?_
          exact ih5 (y + jp) (jp >>> ((1 : Int32) &&& 31)) _ _ _ (shr_lt c6 hm5)  (by rw [hF5]; simp only [f_Tank_sourness_L5, if_neg c6, w14, if_neg c17]) hP hD hS (lv_sub hl [2, 1, 0] rfl)
  exact loop5 524289 0 524288 _ _ _ (by decide)  rfl hP hD hS (lv_sub hl [2, 1, 0] rfl)
