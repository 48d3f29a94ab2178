theorem d_DR_within_0 : decode b_DR_within 0 = .ok (.iload_n 0, 1) := by decide +kernel
theorem d_DR_within_1 : decode b_DR_within 1 = .ok (.iload_n 1, 1) := by decide +kernel
theorem d_DR_within_2 : decode b_DR_within 2 = .ok (.if_icmp .lt 12, 3) := by decide +kernel
theorem d_DR_within_5 : decode b_DR_within 5 = .ok (.iload_n 0, 1) := by decide +kernel
theorem d_DR_within_6 : decode b_DR_within 6 = .ok (.iload_n 2, 1) := by decide +kernel
theorem d_DR_within_7 : decode b_DR_within 7 = .ok (.if_icmp .gt 7, 3) := by decide +kernel
theorem d_DR_within_10 : decode b_DR_within 10 = .ok (.iconst 1, 1) := by decide +kernel
theorem d_DR_within_11 : decode b_DR_within 11 = .ok (.goto 4, 3) := by decide +kernel
theorem d_DR_within_14 : decode b_DR_within 14 = .ok (.iconst 0, 1) := by decide +kernel
theorem d_DR_within_15 : decode b_DR_within 15 = .ok (.ireturn, 1) := by decide +kernel
theorem d_DR_isKind_0 : decode b_DR_isKind 0 = .ok (.iload_n 0, 1) := by decide +kernel
theorem d_DR_isKind_1 : decode b_DR_isKind 1 = .ok (.iconst 0, 1) := by decide +kernel
theorem d_DR_isKind_2 : decode b_DR_isKind 2 = .ok (.iconst 3, 1) := by decide +kernel
theorem d_DR_isKind_3 : decode b_DR_isKind 3 = .ok (.invokestatic 59, 3) := by decide +kernel
theorem d_DR_isKind_6 : decode b_DR_isKind 6 = .ok (.ireturn, 1) := by decide +kernel
theorem d_DR_isPart_0 : decode b_DR_isPart 0 = .ok (.iload_n 0, 1) := by decide +kernel
theorem d_DR_isPart_1 : decode b_DR_isPart 1 = .ok (.iconst 0, 1) := by decide +kernel
theorem d_DR_isPart_2 : decode b_DR_isPart 2 = .ok (.iconst 3, 1) := by decide +kernel
theorem d_DR_isPart_3 : decode b_DR_isPart 3 = .ok (.invokestatic 59, 3) := by decide +kernel
theorem d_DR_isPart_6 : decode b_DR_isPart 6 = .ok (.ireturn, 1) := by decide +kernel
theorem d_DR_thousandthsOf_0 : decode b_DR_thousandthsOf 0 = .ok (.lload_n 0, 1) := by decide +kernel
theorem d_DR_thousandthsOf_1 : decode b_DR_thousandthsOf 1 = .ok (.lload_n 2, 1) := by decide +kernel
theorem d_DR_thousandthsOf_2 : decode b_DR_thousandthsOf 2 = .ok (.lmul, 1) := by decide +kernel
theorem d_DR_thousandthsOf_3 : decode b_DR_thousandthsOf 3 = .ok (.ldc2_w 198, 3) := by decide +kernel
theorem d_DR_thousandthsOf_6 : decode b_DR_thousandthsOf 6 = .ok (.ldiv, 1) := by decide +kernel
theorem d_DR_thousandthsOf_7 : decode b_DR_thousandthsOf 7 = .ok (.lreturn, 1) := by decide +kernel
theorem d_DR_millionthsOf_0 : decode b_DR_millionthsOf 0 = .ok (.lload_n 0, 1) := by decide +kernel
theorem d_DR_millionthsOf_1 : decode b_DR_millionthsOf 1 = .ok (.lload_n 2, 1) := by decide +kernel
theorem d_DR_millionthsOf_2 : decode b_DR_millionthsOf 2 = .ok (.lmul, 1) := by decide +kernel
theorem d_DR_millionthsOf_3 : decode b_DR_millionthsOf 3 = .ok (.ldc2_w 200, 3) := by decide +kernel
theorem d_DR_millionthsOf_6 : decode b_DR_millionthsOf 6 = .ok (.ldiv, 1) := by decide +kernel
theorem d_DR_millionthsOf_7 : decode b_DR_millionthsOf 7 = .ok (.lreturn, 1) := by decide +kernel
theorem d_Shares_of_0 : decode b_Shares_of 0 = .ok (.aload_n 0, 1) := by decide +kernel
theorem d_Shares_of_1 : decode b_Shares_of 1 = .ok (.getfield 9, 3) := by decide +kernel
theorem d_Shares_of_4 : decode b_Shares_of 4 = .ok (.iload_n 1, 1) := by decide +kernel
theorem d_Shares_of_5 : decode b_Shares_of 5 = .ok (.iconst 3, 1) := by decide +kernel
theorem d_Shares_of_6 : decode b_Shares_of 6 = .ok (.imul, 1) := by decide +kernel
theorem d_Shares_of_7 : decode b_Shares_of 7 = .ok (.iload_n 2, 1) := by decide +kernel
theorem d_Shares_of_8 : decode b_Shares_of 8 = .ok (.iadd, 1) := by decide +kernel
theorem d_Shares_of_9 : decode b_Shares_of 9 = .ok (.iaload, 1) := by decide +kernel
theorem d_Shares_of_10 : decode b_Shares_of 10 = .ok (.ireturn, 1) := by decide +kernel
theorem d_Shares_change_0 : decode b_Shares_change 0 = .ok (.iload_n 3, 1) := by decide +kernel
theorem d_Shares_change_1 : decode b_Shares_change 1 = .ok (.aload_n 0, 1) := by decide +kernel
theorem d_Shares_change_2 : decode b_Shares_change 2 = .ok (.iload_n 1, 1) := by decide +kernel
theorem d_Shares_change_3 : decode b_Shares_change 3 = .ok (.iload_n 2, 1) := by decide +kernel
theorem d_Shares_change_4 : decode b_Shares_change 4 = .ok (.invokevirtual 15, 3) := by decide +kernel
theorem d_Shares_change_7 : decode b_Shares_change 7 = .ok (.isub, 1) := by decide +kernel
theorem d_Shares_change_8 : decode b_Shares_change 8 = .ok (.istore 4, 2) := by decide +kernel
theorem d_Shares_change_10 : decode b_Shares_change 10 = .ok (.iconst 0, 1) := by decide +kernel
theorem d_Shares_change_11 : decode b_Shares_change 11 = .ok (.istore 5, 2) := by decide +kernel
theorem d_Shares_change_13 : decode b_Shares_change 13 = .ok (.iload 5, 2) := by decide +kernel
theorem d_Shares_change_15 : decode b_Shares_change 15 = .ok (.iconst 3, 1) := by decide +kernel
theorem d_Shares_change_16 : decode b_Shares_change 16 = .ok (.if_icmp .ge 21, 3) := by decide +kernel
theorem d_Shares_change_19 : decode b_Shares_change 19 = .ok (.iload 4, 2) := by decide +kernel
theorem d_Shares_change_21 : decode b_Shares_change 21 = .ok (.aload_n 0, 1) := by decide +kernel
theorem d_Shares_change_22 : decode b_Shares_change 22 = .ok (.iload_n 1, 1) := by decide +kernel
theorem d_Shares_change_23 : decode b_Shares_change 23 = .ok (.iload 5, 2) := by decide +kernel
theorem d_Shares_change_25 : decode b_Shares_change 25 = .ok (.invokevirtual 15, 3) := by decide +kernel
theorem d_Shares_change_28 : decode b_Shares_change 28 = .ok (.iadd, 1) := by decide +kernel
theorem d_Shares_change_29 : decode b_Shares_change 29 = .ok (.istore 4, 2) := by decide +kernel
theorem d_Shares_change_31 : decode b_Shares_change 31 = .ok (.iinc 5 1, 3) := by decide +kernel
theorem d_Shares_change_34 : decode b_Shares_change 34 = .ok (.goto (-21), 3) := by decide +kernel
theorem d_Shares_change_37 : decode b_Shares_change 37 = .ok (.iload 4, 2) := by decide +kernel
theorem d_Shares_change_39 : decode b_Shares_change 39 = .ok (.sipush 1000, 3) := by decide +kernel
theorem d_Shares_change_42 : decode b_Shares_change 42 = .ok (.if_icmp .le 5, 3) := by decide +kernel
theorem d_Shares_change_45 : decode b_Shares_change 45 = .ok (.iconst 0, 1) := by decide +kernel
theorem d_Shares_change_46 : decode b_Shares_change 46 = .ok (.ireturn, 1) := by decide +kernel
theorem d_Shares_change_47 : decode b_Shares_change 47 = .ok (.aload_n 0, 1) := by decide +kernel
theorem d_Shares_change_48 : decode b_Shares_change 48 = .ok (.getfield 9, 3) := by decide +kernel
theorem d_Shares_change_51 : decode b_Shares_change 51 = .ok (.iload_n 1, 1) := by decide +kernel
theorem d_Shares_change_52 : decode b_Shares_change 52 = .ok (.iconst 3, 1) := by decide +kernel
theorem d_Shares_change_53 : decode b_Shares_change 53 = .ok (.imul, 1) := by decide +kernel
theorem d_Shares_change_54 : decode b_Shares_change 54 = .ok (.iload_n 2, 1) := by decide +kernel
theorem d_Shares_change_55 : decode b_Shares_change 55 = .ok (.iadd, 1) := by decide +kernel
theorem d_Shares_change_56 : decode b_Shares_change 56 = .ok (.iload_n 3, 1) := by decide +kernel
theorem d_Shares_change_57 : decode b_Shares_change 57 = .ok (.iastore, 1) := by decide +kernel
theorem d_Shares_change_58 : decode b_Shares_change 58 = .ok (.iconst 1, 1) := by decide +kernel
theorem d_Shares_change_59 : decode b_Shares_change 59 = .ok (.ireturn, 1) := by decide +kernel
theorem d_Told_hasRoomFor_0 : decode b_Told_hasRoomFor 0 = .ok (.aload_n 0, 1) := by decide +kernel
theorem d_Told_hasRoomFor_1 : decode b_Told_hasRoomFor 1 = .ok (.getfield 21, 3) := by decide +kernel
theorem d_Told_hasRoomFor_4 : decode b_Told_hasRoomFor 4 = .ok (.iload_n 1, 1) := by decide +kernel
theorem d_Told_hasRoomFor_5 : decode b_Told_hasRoomFor 5 = .ok (.iadd, 1) := by decide +kernel
theorem d_Told_hasRoomFor_6 : decode b_Told_hasRoomFor 6 = .ok (.bipush 30, 2) := by decide +kernel
theorem d_Told_hasRoomFor_8 : decode b_Told_hasRoomFor 8 = .ok (.if_icmp .gt 7, 3) := by decide +kernel
theorem d_Told_hasRoomFor_11 : decode b_Told_hasRoomFor 11 = .ok (.iconst 1, 1) := by decide +kernel
theorem d_Told_hasRoomFor_12 : decode b_Told_hasRoomFor 12 = .ok (.goto 4, 3) := by decide +kernel
theorem d_Told_hasRoomFor_15 : decode b_Told_hasRoomFor 15 = .ok (.iconst 0, 1) := by decide +kernel
theorem d_Told_hasRoomFor_16 : decode b_Told_hasRoomFor 16 = .ok (.ireturn, 1) := by decide +kernel
theorem d_Told_add_0 : decode b_Told_add 0 = .ok (.aload_n 0, 1) := by decide +kernel
theorem d_Told_add_1 : decode b_Told_add 1 = .ok (.iconst 1, 1) := by decide +kernel
theorem d_Told_add_2 : decode b_Told_add 2 = .ok (.invokevirtual 25, 3) := by decide +kernel
theorem d_Told_add_5 : decode b_Told_add 5 = .ok (.ifCond .ne 4, 3) := by decide +kernel
theorem d_Told_add_8 : decode b_Told_add 8 = .ok (.return_, 1) := by decide +kernel
theorem d_Told_add_9 : decode b_Told_add 9 = .ok (.aload_n 0, 1) := by decide +kernel
theorem d_Told_add_10 : decode b_Told_add 10 = .ok (.getfield 9, 3) := by decide +kernel
theorem d_Told_add_13 : decode b_Told_add 13 = .ok (.aload_n 0, 1) := by decide +kernel
theorem d_Told_add_14 : decode b_Told_add 14 = .ok (.getfield 21, 3) := by decide +kernel
theorem d_Told_add_17 : decode b_Told_add 17 = .ok (.iload_n 1, 1) := by decide +kernel
theorem d_Told_add_18 : decode b_Told_add 18 = .ok (.iastore, 1) := by decide +kernel
theorem d_Told_add_19 : decode b_Told_add 19 = .ok (.aload_n 0, 1) := by decide +kernel
theorem d_Told_add_20 : decode b_Told_add 20 = .ok (.getfield 15, 3) := by decide +kernel
theorem d_Told_add_23 : decode b_Told_add 23 = .ok (.aload_n 0, 1) := by decide +kernel
theorem d_Told_add_24 : decode b_Told_add 24 = .ok (.getfield 21, 3) := by decide +kernel
theorem d_Told_add_27 : decode b_Told_add 27 = .ok (.iload_n 2, 1) := by decide +kernel
theorem d_Told_add_28 : decode b_Told_add 28 = .ok (.iastore, 1) := by decide +kernel
theorem d_Told_add_29 : decode b_Told_add 29 = .ok (.aload_n 0, 1) := by decide +kernel
theorem d_Told_add_30 : decode b_Told_add 30 = .ok (.getfield 18, 3) := by decide +kernel
theorem d_Told_add_33 : decode b_Told_add 33 = .ok (.aload_n 0, 1) := by decide +kernel
theorem d_Told_add_34 : decode b_Told_add 34 = .ok (.getfield 21, 3) := by decide +kernel
theorem d_Told_add_37 : decode b_Told_add 37 = .ok (.iload_n 3, 1) := by decide +kernel
theorem d_Told_add_38 : decode b_Told_add 38 = .ok (.iastore, 1) := by decide +kernel
theorem d_Told_add_39 : decode b_Told_add 39 = .ok (.aload_n 0, 1) := by decide +kernel
theorem d_Told_add_40 : decode b_Told_add 40 = .ok (.dup, 1) := by decide +kernel
theorem d_Told_add_41 : decode b_Told_add 41 = .ok (.getfield 21, 3) := by decide +kernel
theorem d_Told_add_44 : decode b_Told_add 44 = .ok (.iconst 1, 1) := by decide +kernel
theorem d_Told_add_45 : decode b_Told_add 45 = .ok (.iadd, 1) := by decide +kernel
theorem d_Told_add_46 : decode b_Told_add 46 = .ok (.putfield 21, 3) := by decide +kernel
theorem d_Told_add_49 : decode b_Told_add 49 = .ok (.return_, 1) := by decide +kernel
def f_DR_within (p1 : Int32) (p2 : Int32) (p3 : Int32) : Int32 := if p1 < p2 then (0) else (if p3 < p1 then (0) else (1))
abbrev rm_DR_within : Room := { frames := 0, cells := 0, slots := 0, locals := 0 }
set_option maxHeartbeats 4000000 in
set_option maxRecDepth 100000 in
theorem c_DR_within (l : Launch) (dC : Nat → ClassId) (dI : Nat → Nat → Nat) (cI cL cZ : ClassId) (sz : Nat) (p1 : Int32) (p2 : Int32) (p3 : Int32) : Met l y_DR_within w_DR_within rm_DR_within (va_Pc [.int p1, .int p2, .int p3] (c_pre dC dI cI cL cZ [] sz)) (va_Qi (fun (r : Int32) (_ : Unit) => f_DR_within p1 p2 p3 = r) (c_post dC dI (fun (u : Unit) => []) (va_A [] sz)) (va_A [] sz)) 0 0 (va_A [] sz) := by
  refine Met.ofW (cc := b_DR_within) (maxL := 3) (ret := (some .boolean)) (by decide) rfl ?_
  intro p e s m args below meth c s₁ B hml hv
  obtain ⟨rfl, hsz, hP, hK, hN, hD0⟩ := hv
  have hx := B.exec
  have hb := B.bytes
  have hr := B.returns
  have hts := atoms_spec (ws := w_DR_within) B.pre
  have hown : s.vm.findClass R_DR = some m.cls := findClass_of_methodNamed B.named
  have hlocks := B.notSynchronized
  have hwg : ∀ w ∈ wg, w.before ([.int p1, .int p2, .int p3] : List Value).toArray s = true := fun w h => hts w (List.mem_cons_of_mem _ h)
  subst hsz
  have hD := hD0.self (sz := s.heap.size)
  generalize hAe : va_A [] s.heap.size = A at hD ⊢
  have hA : ∀ q : Nat, s.heap.size ≤ q → A q := fun q h => by rw [← hAe]; exact Or.inr h
  have hS : va_S A s.heap s.heap [] := va_S.rf
  have hP : va_P (dC, dI) vwCl [] s.heap := hP
  have hl := lv_entry ([.int p1, .int p2, .int p3]) (n := 3) (Nat.le_of_ble_eq_true rfl)
  rw [lg_entry_eq]
  generalize (lg_sl ([.int p1, .int p2, .int p3]) ++ List.replicate (3 - (lg_sl ([.int p1, .int p2, .int p3])).length) Slot.unset).toArray = ls at hl ⊢
  have hl : lv_has ls 3 [(0, .int p1), (1, .int p2), (2, .int p3)] := hl
  refine lv_iload_n hx hb d_DR_within_0 rfl (lv_at hl 0 rfl) ?_
  refine lv_iload_n hx hb d_DR_within_1 rfl (lv_at hl 1 rfl) ?_
  refine lv_icmp_lt (tgt := 14) hx hb d_DR_within_2 (by decide) (fun (c2 : p1 < p2) => ?_) (fun (c2 : ¬ (p1 < p2)) => ?_)
  · refine lv_iconst (v := 0) hx hb d_DR_within_14 (by decide) ?_
    have hP9 := hP.sub (ws' := []) [] rfl
    have hD9 := hD.sub (ws' := []) [] (by decide) rfl
    exact W.zret (ty := .boolean) (v := 0) hx hb hr rfl (fun t ht hW => ⟨⟨0, (), rfl, by simp only [f_DR_within, if_pos c2], by rw [ht]; exact hP9, hD9⟩, hS.F ht⟩) hS.2.2 d_DR_within_15
  · refine lv_iload_n hx hb d_DR_within_5 rfl (lv_at hl 0 rfl) ?_
    refine lv_iload_n hx hb d_DR_within_6 rfl (lv_at hl 2 rfl) ?_
    refine lv_icmp_gt (tgt := 14) hx hb d_DR_within_7 (by decide) (fun (c7 : p3 < p1) => ?_) (fun (c7 : ¬ (p3 < p1)) => ?_)
    · refine lv_iconst (v := 0) hx hb d_DR_within_14 (by decide) ?_
      have hP9 := hP.sub (ws' := []) [] rfl
      have hD9 := hD.sub (ws' := []) [] (by decide) rfl
      exact W.zret (ty := .boolean) (v := 0) hx hb hr rfl (fun t ht hW => ⟨⟨0, (), rfl, by simp only [f_DR_within, if_neg c2, if_pos c7], by rw [ht]; exact hP9, hD9⟩, hS.F ht⟩) hS.2.2 d_DR_within_15
    · refine lv_iconst (v := 1) hx hb d_DR_within_10 (by decide) ?_
      refine lv_goto (tgt := 15) hx hb d_DR_within_11 (by decide) ?_
      have hP9 := hP.sub (ws' := []) [] rfl
      have hD9 := hD.sub (ws' := []) [] (by decide) rfl
      exact W.zret (ty := .boolean) (v := 1) hx hb hr rfl (fun t ht hW => ⟨⟨1, (), rfl, by simp only [f_DR_within, if_neg c2, if_neg c7], by rw [ht]; exact hP9, hD9⟩, hS.F ht⟩) hS.2.2 d_DR_within_15
/-! what the small helpers' answers say (behind their defs) -/
theorem within_01 (a b c : Int32) : f_DR_within a b c = 0 ∨ f_DR_within a b c = 1 := by
  unfold f_DR_within; split
  · exact Or.inl rfl
  · split
    · exact Or.inl rfl
    · exact Or.inr rfl
theorem f_within_nar {a b c r : Int32} (h : f_DR_within a b c = r) : narrow .boolean (.int r) = .int r := by
  rw [← h]; rcases within_01 a b c with q | q <;> rw [q] <;> rfl
theorem within_t {a b c r : Int32} (w : f_DR_within a b c = r) (h : ¬ r = 0) : b.toInt ≤ a.toInt ∧ a.toInt ≤ c.toInt := by
  rw [← w] at h; unfold f_DR_within at h
  split at h
  · exact absurd rfl h
  · split at h
    · exact absurd rfl h
    · rename_i h1 h2
      rw [Int32.lt_iff_toInt_lt] at h1 h2; omega
theorem in_w2 {p r : Int32} (w : f_DR_within p 0 2 = r) (c : ¬ r = 0) : vp_in p 3 := by
  have h := within_t w c
  rw [t_0, t_2] at h; rw [vp_in_iff]; omega
theorem in_given {us p r : Int32} (hu : vp_in us 5) (w : f_DR_within p 0 (us - 1) = r) (c : ¬ r = 0) : vp_in p 4 := by
  have h := within_t w c
  rw [vp_in_iff] at hu ⊢
  have e : (us - 1).toInt = us.toInt - 1 := by rw [i_sub] <;> rw [t_1] <;> omega
  rw [t_0, e] at h; omega
def f_DR_isKind (p1 : Int32) : Int32 := let r3 := f_DR_within p1 0 3; r3
abbrev rm_DR_isKind : Room := { frames := 1, cells := 0, slots := 0, locals := 22 }
set_option maxHeartbeats 4000000 in
set_option maxRecDepth 100000 in
theorem c_DR_isKind (l : Launch) (dC : Nat → ClassId) (dI : Nat → Nat → Nat) (cI cL cZ : ClassId) (sz : Nat) (p1 : Int32) : Met l y_DR_isKind w_DR_isKind rm_DR_isKind (va_Pc [.int p1] (c_pre dC dI cI cL cZ [] sz)) (va_Qi (fun (r : Int32) (_ : Unit) => f_DR_isKind p1 = r) (c_post dC dI (fun (u : Unit) => []) (va_A [] sz)) (va_A [] sz)) 0 0 (va_A [] sz) := by
  refine Met.ofW (cc := b_DR_isKind) (maxL := 1) (ret := (some .boolean)) (by decide) rfl ?_
  intro p e s m args below meth c s₁ B hml hv
  obtain ⟨rfl, hsz, hP, hK, hN, hD0⟩ := hv
  have hx := B.exec
  have hb := B.bytes
  have hr := B.returns
  have hts := atoms_spec (ws := w_DR_isKind) B.pre
  have hown : s.vm.findClass R_DR = some m.cls := findClass_of_methodNamed B.named
  have hlocks := B.notSynchronized
  have hwg : ∀ w ∈ wg, w.before ([.int p1] : List Value).toArray s = true := fun w h => hts w (List.mem_cons_of_mem _ h)
  subst hsz
  have hD := hD0.self (sz := s.heap.size)
  generalize hAe : va_A [] s.heap.size = A at hD ⊢
  have hA : ∀ q : Nat, s.heap.size ≤ q → A q := fun q h => by rw [← hAe]; exact Or.inr h
  have hS : va_S A s.heap s.heap [] := va_S.rf
  have hP : va_P (dC, dI) vwCl [] s.heap := hP
  have hl := lv_entry ([.int p1]) (n := 1) (Nat.le_of_ble_eq_true rfl)
  rw [lg_entry_eq]
  generalize (lg_sl ([.int p1]) ++ List.replicate (1 - (lg_sl ([.int p1])).length) Slot.unset).toArray = ls at hl ⊢
  have hl : lv_has ls 1 [(0, .int p1)] := hl
  refine lv_iload_n hx hb d_DR_isKind_0 rfl (lv_at hl 0 rfl) ?_
  refine lv_iconst (v := 0) hx hb d_DR_isKind_1 (by decide) ?_
  refine lv_iconst (v := 3) hx hb d_DR_isKind_2 (by decide) ?_
  have hPc := hP.sub (ws' := []) [] rfl
  have hDc := hD.sub (ws' := []) [] (by decide) rfl
  refine k_calli hP hD hS hA [] [] (wc := []) (wr := []) rfl rfl (by decide) (by decide) (va_runS (As := [.int p1, .int 0, .int 3]) (rest := []) ⟨hx, hb, hml, hown, hwg⟩ (c_DR_within l dC dI cI cL cZ s.heap.size p1 0 3) (va_cwS 3 hwg (g_S kw_106 kw_107 kw_14 kw_108) rfl rfl rfl (by decide +kernel) ⟨Nat.le_of_ble_eq_true rfl, Nat.le_of_ble_eq_true rfl⟩) ⟨c_pre_call, c_pre_mk hPc hDc hK hN _⟩ rfl rfl hl.1 rfl (lv_room (Nat.le_of_ble_eq_true rfl)) d_DR_isKind_3 ⟨Nat.le_of_ble_eq_true rfl, Nat.le_of_ble_eq_true rfl⟩) (fun r3 u H3 locs w3 hz1 hP hD hS => ?_)
  have hP := hP.sub (ws' := []) [] rfl
  have hD := hD.sub (ws' := []) [] (by decide) rfl
  have hP9 := hP.sub (ws' := []) [] rfl
  have hD9 := hD.sub (ws' := []) [] (by decide) rfl
  exact W.zret (ty := .boolean) (v := r3) hx hb hr (f_within_nar w3) (fun t ht hW => ⟨⟨r3, (), rfl, by simp only [f_DR_isKind, w3], by rw [ht]; exact hP9, hD9⟩, hS.F ht⟩) hS.2.2 d_DR_isKind_6
def f_DR_isPart (p1 : Int32) : Int32 := let r3 := f_DR_within p1 0 3; r3
abbrev rm_DR_isPart : Room := { frames := 1, cells := 0, slots := 0, locals := 22 }
set_option maxHeartbeats 4000000 in
set_option maxRecDepth 100000 in
theorem c_DR_isPart (l : Launch) (dC : Nat → ClassId) (dI : Nat → Nat → Nat) (cI cL cZ : ClassId) (sz : Nat) (p1 : Int32) : Met l y_DR_isPart w_DR_isPart rm_DR_isPart (va_Pc [.int p1] (c_pre dC dI cI cL cZ [] sz)) (va_Qi (fun (r : Int32) (_ : Unit) => f_DR_isPart p1 = r) (c_post dC dI (fun (u : Unit) => []) (va_A [] sz)) (va_A [] sz)) 0 0 (va_A [] sz) := by
  refine Met.ofW (cc := b_DR_isPart) (maxL := 1) (ret := (some .boolean)) (by decide) rfl ?_
  intro p e s m args below meth c s₁ B hml hv
  obtain ⟨rfl, hsz, hP, hK, hN, hD0⟩ := hv
  have hx := B.exec
  have hb := B.bytes
  have hr := B.returns
  have hts := atoms_spec (ws := w_DR_isPart) B.pre
  have hown : s.vm.findClass R_DR = some m.cls := findClass_of_methodNamed B.named
  have hlocks := B.notSynchronized
  have hwg : ∀ w ∈ wg, w.before ([.int p1] : List Value).toArray s = true := fun w h => hts w (List.mem_cons_of_mem _ h)
  subst hsz
  have hD := hD0.self (sz := s.heap.size)
  generalize hAe : va_A [] s.heap.size = A at hD ⊢
  have hA : ∀ q : Nat, s.heap.size ≤ q → A q := fun q h => by rw [← hAe]; exact Or.inr h
  have hS : va_S A s.heap s.heap [] := va_S.rf
  have hP : va_P (dC, dI) vwCl [] s.heap := hP
  have hl := lv_entry ([.int p1]) (n := 1) (Nat.le_of_ble_eq_true rfl)
  rw [lg_entry_eq]
  generalize (lg_sl ([.int p1]) ++ List.replicate (1 - (lg_sl ([.int p1])).length) Slot.unset).toArray = ls at hl ⊢
  have hl : lv_has ls 1 [(0, .int p1)] := hl
  refine lv_iload_n hx hb d_DR_isPart_0 rfl (lv_at hl 0 rfl) ?_
  refine lv_iconst (v := 0) hx hb d_DR_isPart_1 (by decide) ?_
  refine lv_iconst (v := 3) hx hb d_DR_isPart_2 (by decide) ?_
  have hPc := hP.sub (ws' := []) [] rfl
  have hDc := hD.sub (ws' := []) [] (by decide) rfl
  refine k_calli hP hD hS hA [] [] (wc := []) (wr := []) rfl rfl (by decide) (by decide) (va_runS (As := [.int p1, .int 0, .int 3]) (rest := []) ⟨hx, hb, hml, hown, hwg⟩ (c_DR_within l dC dI cI cL cZ s.heap.size p1 0 3) (va_cwS 3 hwg (g_S kw_106 kw_107 kw_14 kw_108) rfl rfl rfl (by decide +kernel) ⟨Nat.le_of_ble_eq_true rfl, Nat.le_of_ble_eq_true rfl⟩) ⟨c_pre_call, c_pre_mk hPc hDc hK hN _⟩ rfl rfl hl.1 rfl (lv_room (Nat.le_of_ble_eq_true rfl)) d_DR_isPart_3 ⟨Nat.le_of_ble_eq_true rfl, Nat.le_of_ble_eq_true rfl⟩) (fun r3 u H3 locs w3 hz1 hP hD hS => ?_)
  have hP := hP.sub (ws' := []) [] rfl
  have hD := hD.sub (ws' := []) [] (by decide) rfl
  have hP9 := hP.sub (ws' := []) [] rfl
  have hD9 := hD.sub (ws' := []) [] (by decide) rfl
  exact W.zret (ty := .boolean) (v := r3) hx hb hr (f_within_nar w3) (fun t ht hW => ⟨⟨r3, (), rfl, by simp only [f_DR_isPart, w3], by rw [ht]; exact hP9, hD9⟩, hS.F ht⟩) hS.2.2 d_DR_isPart_6
theorem in_isKind {p r : Int32} (w : f_DR_isKind p = r) (c : ¬ r = 0) : vp_in p 4 := by
  have h := within_t (show f_DR_within p 0 3 = r from w) c
  rw [t_0, t_3] at h; rw [vp_in_iff]; omega
theorem in_isPart {p r : Int32} (w : f_DR_isPart p = r) (c : ¬ r = 0) : vp_in p 4 := by
  have h := within_t (show f_DR_within p 0 3 = r from w) c
  rw [t_0, t_3] at h; rw [vp_in_iff]; omega
def f_DR_thousandthsOf (p1 : Int64) (p2 : Int64) : Int64 := (p1 * p2) / 1000
abbrev rm_DR_thousandthsOf : Room := { frames := 0, cells := 0, slots := 0, locals := 0 }
set_option maxHeartbeats 4000000 in
set_option maxRecDepth 100000 in
theorem c_DR_thousandthsOf (l : Launch) (dC : Nat → ClassId) (dI : Nat → Nat → Nat) (cI cL cZ : ClassId) (sz : Nat) (p1 : Int64) (p2 : Int64) : Met l y_DR_thousandthsOf w_DR_thousandthsOf rm_DR_thousandthsOf (va_Pc [.long p1, .long p2] (c_pre dC dI cI cL cZ [] sz)) (va_Ql (fun (r : Int64) (_ : Unit) => f_DR_thousandthsOf p1 p2 = r) (c_post dC dI (fun (u : Unit) => []) (va_A [] sz)) (va_A [] sz)) 0 0 (va_A [] sz) := by
  refine Met.ofW (cc := b_DR_thousandthsOf) (maxL := 4) (ret := (some .long)) (by decide) rfl ?_
  intro p e s m args below meth c s₁ B hml hv
  obtain ⟨rfl, hsz, hP, hK, hN, hD0⟩ := hv
  have hx := B.exec
  have hb := B.bytes
  have hr := B.returns
  have hts := atoms_spec (ws := w_DR_thousandthsOf) B.pre
  have hown : s.vm.findClass R_DR = some m.cls := findClass_of_methodNamed B.named
  have hlocks := B.notSynchronized
  have hwg : ∀ w ∈ wg, w.before ([.long p1, .long p2] : List Value).toArray s = true := fun w h => hts w (List.mem_cons_of_mem _ h)
  subst hsz
  have hD := hD0.self (sz := s.heap.size)
  generalize hAe : va_A [] s.heap.size = A at hD ⊢
  have hA : ∀ q : Nat, s.heap.size ≤ q → A q := fun q h => by rw [← hAe]; exact Or.inr h
  have hS : va_S A s.heap s.heap [] := va_S.rf
  have hP : va_P (dC, dI) vwCl [] s.heap := hP
  have hl := lv_entry ([.long p1, .long p2]) (n := 4) (Nat.le_of_ble_eq_true rfl)
  rw [lg_entry_eq]
  generalize (lg_sl ([.long p1, .long p2]) ++ List.replicate (4 - (lg_sl ([.long p1, .long p2])).length) Slot.unset).toArray = ls at hl ⊢
  have hl : lv_has ls 4 [(0, .long p1), (2, .long p2)] := hl
  refine lv_lload_n hx hb d_DR_thousandthsOf_0 rfl (lv_at hl 0 rfl) ?_
  refine lv_lload_n hx hb d_DR_thousandthsOf_1 rfl (lv_at hl 1 rfl) ?_
  refine lv_lmul hx hb d_DR_thousandthsOf_2 ?_
  refine lv_ldc2 hx hb hown (hwg _ kw_200) d_DR_thousandthsOf_3 ?_
  refine lv_ldiv hx hb d_DR_thousandthsOf_6 (by decide) ?_
  have hP9 := hP.sub (ws' := []) [] rfl
  have hD9 := hD.sub (ws' := []) [] (by decide) rfl
  exact W.lret (v := (p1 * p2) / 1000) hx hb hr (fun t ht hW => ⟨⟨(p1 * p2) / 1000, (), rfl, by simp only [f_DR_thousandthsOf], by rw [ht]; exact hP9, hD9⟩, hS.F ht⟩) hS.2.2 d_DR_thousandthsOf_7
def f_DR_millionthsOf (p1 : Int64) (p2 : Int64) : Int64 := (p1 * p2) / 1000000
abbrev rm_DR_millionthsOf : Room := { frames := 0, cells := 0, slots := 0, locals := 0 }
set_option maxHeartbeats 4000000 in
set_option maxRecDepth 100000 in
theorem c_DR_millionthsOf (l : Launch) (dC : Nat → ClassId) (dI : Nat → Nat → Nat) (cI cL cZ : ClassId) (sz : Nat) (p1 : Int64) (p2 : Int64) : Met l y_DR_millionthsOf w_DR_millionthsOf rm_DR_millionthsOf (va_Pc [.long p1, .long p2] (c_pre dC dI cI cL cZ [] sz)) (va_Ql (fun (r : Int64) (_ : Unit) => f_DR_millionthsOf p1 p2 = r) (c_post dC dI (fun (u : Unit) => []) (va_A [] sz)) (va_A [] sz)) 0 0 (va_A [] sz) := by
  refine Met.ofW (cc := b_DR_millionthsOf) (maxL := 4) (ret := (some .long)) (by decide) rfl ?_
  intro p e s m args below meth c s₁ B hml hv
  obtain ⟨rfl, hsz, hP, hK, hN, hD0⟩ := hv
  have hx := B.exec
  have hb := B.bytes
  have hr := B.returns
  have hts := atoms_spec (ws := w_DR_millionthsOf) B.pre
  have hown : s.vm.findClass R_DR = some m.cls := findClass_of_methodNamed B.named
  have hlocks := B.notSynchronized
  have hwg : ∀ w ∈ wg, w.before ([.long p1, .long p2] : List Value).toArray s = true := fun w h => hts w (List.mem_cons_of_mem _ h)
  subst hsz
  have hD := hD0.self (sz := s.heap.size)
  generalize hAe : va_A [] s.heap.size = A at hD ⊢
  have hA : ∀ q : Nat, s.heap.size ≤ q → A q := fun q h => by rw [← hAe]; exact Or.inr h
  have hS : va_S A s.heap s.heap [] := va_S.rf
  have hP : va_P (dC, dI) vwCl [] s.heap := hP
  have hl := lv_entry ([.long p1, .long p2]) (n := 4) (Nat.le_of_ble_eq_true rfl)
  rw [lg_entry_eq]
  generalize (lg_sl ([.long p1, .long p2]) ++ List.replicate (4 - (lg_sl ([.long p1, .long p2])).length) Slot.unset).toArray = ls at hl ⊢
  have hl : lv_has ls 4 [(0, .long p1), (2, .long p2)] := hl
  refine lv_lload_n hx hb d_DR_millionthsOf_0 rfl (lv_at hl 0 rfl) ?_
  refine lv_lload_n hx hb d_DR_millionthsOf_1 rfl (lv_at hl 1 rfl) ?_
  refine lv_lmul hx hb d_DR_millionthsOf_2 ?_
  refine lv_ldc2 hx hb hown (hwg _ kw_214) d_DR_millionthsOf_3 ?_
  refine lv_ldiv hx hb d_DR_millionthsOf_6 (by decide) ?_
  have hP9 := hP.sub (ws' := []) [] rfl
  have hD9 := hD.sub (ws' := []) [] (by decide) rfl
  exact W.lret (v := (p1 * p2) / 1000000) hx hb hr (fun t ht hW => ⟨⟨(p1 * p2) / 1000000, (), rfl, by simp only [f_DR_millionthsOf], by rw [ht]; exact hP9, hD9⟩, hS.F ht⟩) hS.2.2 d_DR_millionthsOf_7
def f_Shares_of (th : Nat → Int32) (p1 : Int32) (p2 : Int32) : Int32 := th (Int32.toNatClampNeg ((p1 * 3) + p2))
abbrev rm_Shares_of : Room := { frames := 0, cells := 0, slots := 0, locals := 0 }
set_option maxHeartbeats 4000000 in
set_option maxRecDepth 100000 in
theorem c_Shares_of (l : Launch) (dC : Nat → ClassId) (dI : Nat → Nat → Nat) (cI cL cZ : ClassId) (aS bS : Nat) (sz : Nat) (th : Nat → Int32) (p1 : Int32) (p2 : Int32) (hin : vp_in (p1 * 3 + p2) 12) : Met l y_Shares_of w_Shares_of rm_Shares_of (va_Pc [.ref aS, .int p1, .int p2] (c_pre dC dI cI cL cZ [(aS, .inr (1, [.ref bS])), (bS, .inl (cI, 12, .inl th))] sz)) (va_Qi (fun (r : Int32) (_ : Unit) => f_Shares_of th p1 p2 = r) (c_post dC dI (fun (u : Unit) => [(aS, .inr (1, [.ref bS])), (bS, .inl (cI, 12, .inl th))]) (va_A [(aS, .inr (1, [.ref bS])), (bS, .inl (cI, 12, .inl th))] sz)) (va_A [(aS, .inr (1, [.ref bS])), (bS, .inl (cI, 12, .inl th))] sz)) 0 0 (va_A [(aS, .inr (1, [.ref bS])), (bS, .inl (cI, 12, .inl th))] sz) := by
  refine Met.ofW (cc := b_Shares_of) (maxL := 3) (ret := (some .int)) (by decide) rfl ?_
  intro p e s m args below meth c s₁ B hml hv
  obtain ⟨rfl, hsz, hP, hK, hN, hD0⟩ := hv
  have hx := B.exec
  have hb := B.bytes
  have hr := B.returns
  have hts := atoms_spec (ws := w_Shares_of) B.pre
  have hown : s.vm.findClass R_Shares = some m.cls := findClass_of_methodNamed B.named
  have hlocks := B.notSynchronized
  have hwg : ∀ w ∈ wg, w.before ([.ref aS, .int p1, .int p2] : List Value).toArray s = true := fun w h => hts w (List.mem_cons_of_mem _ h)
  subst hsz
  have hD := hD0.self (sz := s.heap.size)
  generalize hAe : va_A [(aS, .inr (1, [.ref bS])), (bS, .inl (cI, 12, .inl th))] s.heap.size = A at hD ⊢
  have hA : ∀ q : Nat, s.heap.size ≤ q → A q := fun q h => by rw [← hAe]; exact Or.inr h
  have hS : va_S A s.heap s.heap [] := va_S.rf
  have hP : va_P (dC, dI) vwCl [(aS, .inr (1, [.ref bS])), (bS, .inl (cI, 12, .inl th))] s.heap := hP
  have hl := lv_entry ([.ref aS, .int p1, .int p2]) (n := 3) (Nat.le_of_ble_eq_true rfl)
  rw [lg_entry_eq]
  generalize (lg_sl ([.ref aS, .int p1, .int p2]) ++ List.replicate (3 - (lg_sl ([.ref aS, .int p1, .int p2])).length) Slot.unset).toArray = ls at hl ⊢
  have hl : lv_has ls 3 [(0, .ref aS), (1, .int p1), (2, .int p2)] := hl
  refine lv_aload_n hx hb d_Shares_of_0 rfl (lv_at hl 0 rfl) ?_
  refine va_get (D := (dC, dI)) (ci := 1) (v := .ref bS) (C := R_Shares) (T := F_Shares) (N := 1) hx hb hwg iu_Shares hown hK hP 0 rfl rfl 0 (by decide) (hwg _ kw_38) (fun _ h9 => h9) rfl d_Shares_of_1 ?_
  refine lv_iload_n hx hb d_Shares_of_4 rfl (lv_at hl 1 rfl) ?_
  refine lv_iconst (v := 3) hx hb d_Shares_of_5 (by decide) ?_
  refine lv_imul hx hb d_Shares_of_6 ?_
  refine lv_iload_n hx hb d_Shares_of_7 rfl (lv_at hl 2 rfl) ?_
  refine lv_iadd hx hb d_Shares_of_8 ?_
  refine va_iald hx hb hK hP 1 0 rfl rfl hin d_Shares_of_9 ?_
  have hP9 := hP.sub (ws' := [(aS, .inr (1, [.ref bS])), (bS, .inl (cI, 12, .inl th))]) [0, 1] rfl
  have hD9 := hD.sub (ws' := [(aS, .inr (1, [.ref bS])), (bS, .inl (cI, 12, .inl th))]) [0, 1] (by decide) rfl
  exact W.iret (v := th (Int32.toNatClampNeg ((p1 * 3) + p2))) hx hb hr (fun t ht hW => ⟨⟨th (Int32.toNatClampNeg ((p1 * 3) + p2)), (), rfl, by simp only [f_Shares_of], by rw [ht]; exact hP9, hD9⟩, hS.F ht⟩) hS.2.2 d_Shares_of_10
def f_Shares_change (th : Nat → Int32) (p1 : Int32) (p2 : Int32) (p3 : Int32) : Int32 × (Nat → Int32) := let r4 := f_Shares_of th p1 p2; let r25 := f_Shares_of th p1 0; let r25_2 := f_Shares_of th p1 1; let r25_3 := f_Shares_of th p1 2; if ((((p3 - r4) + r25) + r25_2) + r25_3) ≤ 1000 then ((1, upd th (Int32.toNatClampNeg ((p1 * 3) + p2)) p3)) else ((0, th))
abbrev rm_Shares_change : Room := { frames := 1, cells := 0, slots := 0, locals := 22 }
set_option maxHeartbeats 4000000 in
set_option maxRecDepth 100000 in
theorem c_Shares_change (l : Launch) (dC : Nat → ClassId) (dI : Nat → Nat → Nat) (cI cL cZ : ClassId) (aS bS : Nat) (sz : Nat) (th : Nat → Int32) (p1 : Int32) (p2 : Int32) (p3 : Int32) (hk : vp_in p1 4) (hp : vp_in p2 3) : Met l y_Shares_change w_Shares_change rm_Shares_change (va_Pc [.ref aS, .int p1, .int p2, .int p3] (c_pre dC dI cI cL cZ [(aS, .inr (1, [.ref bS])), (bS, .inl (cI, 12, .inl th))] sz)) (va_Qi (fun (r : Int32) (u : (Nat → Int32)) => f_Shares_change th p1 p2 p3 = (r, u)) (c_post dC dI (fun (u : (Nat → Int32)) => [(aS, .inr (1, [.ref bS])), (bS, .inl (cI, 12, .inl u))]) (va_A [(aS, .inr (1, [.ref bS])), (bS, .inl (cI, 12, .inl th))] sz)) (va_A [(aS, .inr (1, [.ref bS])), (bS, .inl (cI, 12, .inl th))] sz)) 0 0 (va_A [(aS, .inr (1, [.ref bS])), (bS, .inl (cI, 12, .inl th))] sz) := by
  refine Met.ofW (cc := b_Shares_change) (maxL := 6) (ret := (some .boolean)) (by decide) rfl ?_
  intro p e s m args below meth c s₁ B hml hv
  obtain ⟨rfl, hsz, hP, hK, hN, hD0⟩ := hv
  have hx := B.exec
  have hb := B.bytes
  have hr := B.returns
  have hts := atoms_spec (ws := w_Shares_change) B.pre
  have hown : s.vm.findClass R_Shares = some m.cls := findClass_of_methodNamed B.named
  have hlocks := B.notSynchronized
  have hwg : ∀ w ∈ wg, w.before ([.ref aS, .int p1, .int p2, .int p3] : List Value).toArray s = true := fun w h => hts w (List.mem_cons_of_mem _ h)
  subst hsz
  have hD := hD0.self (sz := s.heap.size)
  generalize hAe : va_A [(aS, .inr (1, [.ref bS])), (bS, .inl (cI, 12, .inl th))] s.heap.size = A at hD ⊢
  have hA : ∀ q : Nat, s.heap.size ≤ q → A q := fun q h => by rw [← hAe]; exact Or.inr h
  have hS : va_S A s.heap s.heap [] := va_S.rf
  have hP : va_P (dC, dI) vwCl [(aS, .inr (1, [.ref bS])), (bS, .inl (cI, 12, .inl th))] s.heap := hP
  have hl := lv_entry ([.ref aS, .int p1, .int p2, .int p3]) (n := 6) (Nat.le_of_ble_eq_true rfl)
  rw [lg_entry_eq]
  generalize (lg_sl ([.ref aS, .int p1, .int p2, .int p3]) ++ List.replicate (6 - (lg_sl ([.ref aS, .int p1, .int p2, .int p3])).length) Slot.unset).toArray = ls at hl ⊢
  have hl : lv_has ls 6 [(0, .ref aS), (1, .int p1), (2, .int p2), (3, .int p3)] := hl
  refine lv_iload_n hx hb d_Shares_change_0 rfl (lv_at hl 3 rfl) ?_
  refine lv_aload_n hx hb d_Shares_change_1 rfl (lv_at hl 0 rfl) ?_
  refine lv_iload_n hx hb d_Shares_change_2 rfl (lv_at hl 1 rfl) ?_
  refine lv_iload_n hx hb d_Shares_change_3 rfl (lv_at hl 2 rfl) ?_
  have hPc := hP.sub (ws' := [(aS, .inr (1, [.ref bS])), (bS, .inl (cI, 12, .inl th))]) [0, 1] rfl
  have hDc := hD.sub (ws' := [(aS, .inr (1, [.ref bS])), (bS, .inl (cI, 12, .inl th))]) [0, 1] (by decide) rfl
  refine k_calli hP hD hS hA [0, 1] [] (wc := [(aS, .inr (1, [.ref bS])), (bS, .inl (cI, 12, .inl th))]) (wr := []) rfl rfl (by decide) (by decide) (va_runV (As := [.int p1, .int p2]) (rest := [.int p3]) ⟨hx, hb, hml, hown, hwg⟩ (c_Shares_of l dC dI cI cL cZ aS bS s.heap.size th p1 p2 (in_sh hk hp)) (cwV 2 hwg (g_V kw_113 kw_114 kw_115 kw_15 kw_116) rfl rfl rfl (by decide +kernel) ⟨Nat.le_of_ble_eq_true rfl, Nat.le_of_ble_eq_true rfl⟩) ⟨c_pre_call, va_recv hK hPc (ci := 1) (q0 := 0) rfl rfl, c_pre_mk hPc hDc hK hN _⟩ rfl rfl hl.1 rfl (lv_room (Nat.le_of_ble_eq_true rfl)) d_Shares_change_4 ⟨Nat.le_of_ble_eq_true rfl, Nat.le_of_ble_eq_true rfl⟩) (fun r4 u H4 locs w4 hz1 hP hD hS => ?_)
  have hP := hP.sub (ws' := [(aS, .inr (1, [.ref bS])), (bS, .inl (cI, 12, .inl th))]) [0, 1] rfl
  have hD := hD.sub (ws' := [(aS, .inr (1, [.ref bS])), (bS, .inl (cI, 12, .inl th))]) [0, 1] (by decide) rfl
  refine lv_isub hx hb d_Shares_change_7 ?_
  refine lv_istore (lv' := [(4, .int (p3 - r4)), (0, .ref aS), (1, .int p1), (2, .int p2), (3, .int p3)]) hx hb d_Shares_change_8 hl (by decide) rfl (fun ls hl => ?_)
  refine lv_iconst (v := 0) hx hb d_Shares_change_10 (by decide) ?_
  refine lv_istore (lv' := [(5, .int 0), (4, .int (p3 - r4)), (0, .ref aS), (1, .int p1), (2, .int p2), (3, .int p3)]) hx hb d_Shares_change_11 hl (by decide) rfl (fun ls hl => ?_)
  refine lv_iload hx hb d_Shares_change_13 (lv_at hl 0 rfl) ?_
  refine lv_iconst (v := 3) hx hb d_Shares_change_15 (by decide) ?_
  refine lv_icmp_ge (tgt := 37) hx hb d_Shares_change_16 (by decide) (fun c16 => ?_) (fun c16 => ?_)
  · exact absurd c16 (by decide)
  refine lv_iload hx hb d_Shares_change_19 (lv_at hl 1 rfl) ?_
  refine lv_aload_n hx hb d_Shares_change_21 rfl (lv_at hl 2 rfl) ?_
  refine lv_iload_n hx hb d_Shares_change_22 rfl (lv_at hl 3 rfl) ?_
  refine lv_iload hx hb d_Shares_change_23 (lv_at hl 0 rfl) ?_
  have hPc := hP.sub (ws' := [(aS, .inr (1, [.ref bS])), (bS, .inl (cI, 12, .inl th))]) [0, 1] rfl
  have hDc := hD.sub (ws' := [(aS, .inr (1, [.ref bS])), (bS, .inl (cI, 12, .inl th))]) [0, 1] (by decide) rfl
  refine k_calli hP hD hS hA [0, 1] [] (wc := [(aS, .inr (1, [.ref bS])), (bS, .inl (cI, 12, .inl th))]) (wr := []) rfl rfl (by decide) (by decide) (va_runV (As := [.int p1, .int 0]) (rest := [.int (p3 - r4)]) ⟨hx, hb, hml, hown, hwg⟩ (c_Shares_of l dC dI cI cL cZ aS bS H4.size th p1 0 (in_sh hk (by unfold vp_in; decide))) (cwV 2 hwg (g_V kw_113 kw_114 kw_115 kw_15 kw_116) rfl rfl rfl (by decide +kernel) ⟨Nat.le_of_ble_eq_true rfl, Nat.le_of_ble_eq_true rfl⟩) ⟨c_pre_call, va_recv hK hPc (ci := 1) (q0 := 0) rfl rfl, c_pre_mk hPc hDc hK hN _⟩ rfl rfl hl.1 rfl (lv_room (Nat.le_of_ble_eq_true rfl)) d_Shares_change_25 ⟨Nat.le_of_ble_eq_true rfl, Nat.le_of_ble_eq_true rfl⟩) (fun r25 u H25 locs w25 hz1 hP hD hS => ?_)
  have hP := hP.sub (ws' := [(aS, .inr (1, [.ref bS])), (bS, .inl (cI, 12, .inl th))]) [0, 1] rfl
  have hD := hD.sub (ws' := [(aS, .inr (1, [.ref bS])), (bS, .inl (cI, 12, .inl th))]) [0, 1] (by decide) rfl
  refine lv_iadd hx hb d_Shares_change_28 ?_
  refine lv_istore (lv' := [(4, .int ((p3 - r4) + r25)), (5, .int 0), (0, .ref aS), (1, .int p1), (2, .int p2), (3, .int p3)]) hx hb d_Shares_change_29 hl (by decide) rfl (fun ls hl => ?_)
  refine lv_iinc (v := 1) (lv' := [(5, .int 1), (4, .int ((p3 - r4) + r25)), (0, .ref aS), (1, .int p1), (2, .int p2), (3, .int p3)]) hx hb d_Shares_change_31 hl (k := 1) rfl (by decide) (by decide) rfl (fun ls hl => ?_)
  refine lv_goto (tgt := 13) hx hb d_Shares_change_34 (by decide) ?_
  refine lv_iload hx hb d_Shares_change_13 (lv_at hl 0 rfl) ?_
  refine lv_iconst (v := 3) hx hb d_Shares_change_15 (by decide) ?_
  refine lv_icmp_ge (tgt := 37) hx hb d_Shares_change_16 (by decide) (fun c16_2 => ?_) (fun c16_2 => ?_)
  · exact absurd c16_2 (by decide)
  refine lv_iload hx hb d_Shares_change_19 (lv_at hl 1 rfl) ?_
  refine lv_aload_n hx hb d_Shares_change_21 rfl (lv_at hl 2 rfl) ?_
  refine lv_iload_n hx hb d_Shares_change_22 rfl (lv_at hl 3 rfl) ?_
  refine lv_iload hx hb d_Shares_change_23 (lv_at hl 0 rfl) ?_
  have hPc := hP.sub (ws' := [(aS, .inr (1, [.ref bS])), (bS, .inl (cI, 12, .inl th))]) [0, 1] rfl
  have hDc := hD.sub (ws' := [(aS, .inr (1, [.ref bS])), (bS, .inl (cI, 12, .inl th))]) [0, 1] (by decide) rfl
  refine k_calli hP hD hS hA [0, 1] [] (wc := [(aS, .inr (1, [.ref bS])), (bS, .inl (cI, 12, .inl th))]) (wr := []) rfl rfl (by decide) (by decide) (va_runV (As := [.int p1, .int 1]) (rest := [.int ((p3 - r4) + r25)]) ⟨hx, hb, hml, hown, hwg⟩ (c_Shares_of l dC dI cI cL cZ aS bS H25.size th p1 1 (in_sh hk (by unfold vp_in; decide))) (cwV 2 hwg (g_V kw_113 kw_114 kw_115 kw_15 kw_116) rfl rfl rfl (by decide +kernel) ⟨Nat.le_of_ble_eq_true rfl, Nat.le_of_ble_eq_true rfl⟩) ⟨c_pre_call, va_recv hK hPc (ci := 1) (q0 := 0) rfl rfl, c_pre_mk hPc hDc hK hN _⟩ rfl rfl hl.1 rfl (lv_room (Nat.le_of_ble_eq_true rfl)) d_Shares_change_25 ⟨Nat.le_of_ble_eq_true rfl, Nat.le_of_ble_eq_true rfl⟩) (fun r25_2 u H25_2 locs w25_2 hz1 hP hD hS => ?_)
  have hP := hP.sub (ws' := [(aS, .inr (1, [.ref bS])), (bS, .inl (cI, 12, .inl th))]) [0, 1] rfl
  have hD := hD.sub (ws' := [(aS, .inr (1, [.ref bS])), (bS, .inl (cI, 12, .inl th))]) [0, 1] (by decide) rfl
  refine lv_iadd hx hb d_Shares_change_28 ?_
  refine lv_istore (lv' := [(4, .int (((p3 - r4) + r25) + r25_2)), (5, .int 1), (0, .ref aS), (1, .int p1), (2, .int p2), (3, .int p3)]) hx hb d_Shares_change_29 hl (by decide) rfl (fun ls hl => ?_)
  refine lv_iinc (v := 2) (lv' := [(5, .int 2), (4, .int (((p3 - r4) + r25) + r25_2)), (0, .ref aS), (1, .int p1), (2, .int p2), (3, .int p3)]) hx hb d_Shares_change_31 hl (k := 1) rfl (by decide) (by decide) rfl (fun ls hl => ?_)
  refine lv_goto (tgt := 13) hx hb d_Shares_change_34 (by decide) ?_
  refine lv_iload hx hb d_Shares_change_13 (lv_at hl 0 rfl) ?_
  refine lv_iconst (v := 3) hx hb d_Shares_change_15 (by decide) ?_
  refine lv_icmp_ge (tgt := 37) hx hb d_Shares_change_16 (by decide) (fun c16_3 => ?_) (fun c16_3 => ?_)
  · exact absurd c16_3 (by decide)
  refine lv_iload hx hb d_Shares_change_19 (lv_at hl 1 rfl) ?_
  refine lv_aload_n hx hb d_Shares_change_21 rfl (lv_at hl 2 rfl) ?_
  refine lv_iload_n hx hb d_Shares_change_22 rfl (lv_at hl 3 rfl) ?_
  refine lv_iload hx hb d_Shares_change_23 (lv_at hl 0 rfl) ?_
  have hPc := hP.sub (ws' := [(aS, .inr (1, [.ref bS])), (bS, .inl (cI, 12, .inl th))]) [0, 1] rfl
  have hDc := hD.sub (ws' := [(aS, .inr (1, [.ref bS])), (bS, .inl (cI, 12, .inl th))]) [0, 1] (by decide) rfl
  refine k_calli hP hD hS hA [0, 1] [] (wc := [(aS, .inr (1, [.ref bS])), (bS, .inl (cI, 12, .inl th))]) (wr := []) rfl rfl (by decide) (by decide) (va_runV (As := [.int p1, .int 2]) (rest := [.int (((p3 - r4) + r25) + r25_2)]) ⟨hx, hb, hml, hown, hwg⟩ (c_Shares_of l dC dI cI cL cZ aS bS H25_2.size th p1 2 (in_sh hk (by unfold vp_in; decide))) (cwV 2 hwg (g_V kw_113 kw_114 kw_115 kw_15 kw_116) rfl rfl rfl (by decide +kernel) ⟨Nat.le_of_ble_eq_true rfl, Nat.le_of_ble_eq_true rfl⟩) ⟨c_pre_call, va_recv hK hPc (ci := 1) (q0 := 0) rfl rfl, c_pre_mk hPc hDc hK hN _⟩ rfl rfl hl.1 rfl (lv_room (Nat.le_of_ble_eq_true rfl)) d_Shares_change_25 ⟨Nat.le_of_ble_eq_true rfl, Nat.le_of_ble_eq_true rfl⟩) (fun r25_3 u H25_3 locs w25_3 hz1 hP hD hS => ?_)
  have hP := hP.sub (ws' := [(aS, .inr (1, [.ref bS])), (bS, .inl (cI, 12, .inl th))]) [0, 1] rfl
  have hD := hD.sub (ws' := [(aS, .inr (1, [.ref bS])), (bS, .inl (cI, 12, .inl th))]) [0, 1] (by decide) rfl
  refine lv_iadd hx hb d_Shares_change_28 ?_
  refine lv_istore (lv' := [(4, .int ((((p3 - r4) + r25) + r25_2) + r25_3)), (5, .int 2), (0, .ref aS), (1, .int p1), (2, .int p2), (3, .int p3)]) hx hb d_Shares_change_29 hl (by decide) rfl (fun ls hl => ?_)
  refine lv_iinc (v := 3) (lv' := [(5, .int 3), (4, .int ((((p3 - r4) + r25) + r25_2) + r25_3)), (0, .ref aS), (1, .int p1), (2, .int p2), (3, .int p3)]) hx hb d_Shares_change_31 hl (k := 1) rfl (by decide) (by decide) rfl (fun ls hl => ?_)
  refine lv_goto (tgt := 13) hx hb d_Shares_change_34 (by decide) ?_
  refine lv_iload hx hb d_Shares_change_13 (lv_at hl 0 rfl) ?_
  refine lv_iconst (v := 3) hx hb d_Shares_change_15 (by decide) ?_
  refine lv_icmp_ge (tgt := 37) hx hb d_Shares_change_16 (by decide) (fun c16_4 => ?_) (fun c16_4 => ?_)
  rotate_left
  · exact absurd c16_4 (by decide)
  refine lv_iload hx hb d_Shares_change_37 (lv_at hl 1 rfl) ?_
  refine lv_sipush (v := 1000) hx hb d_Shares_change_39 (by decide) ?_
  refine lv_icmp_le (tgt := 47) hx hb d_Shares_change_42 (by decide) (fun (c42 : ((((p3 - r4) + r25) + r25_2) + r25_3) ≤ 1000) => ?_) (fun (c42 : ¬ (((((p3 - r4) + r25) + r25_2) + r25_3) ≤ 1000)) => ?_)
  · refine lv_aload_n hx hb d_Shares_change_47 rfl (lv_at hl 2 rfl) ?_
    refine va_get (D := (dC, dI)) (ci := 1) (v := .ref bS) (C := R_Shares) (T := F_Shares) (N := 1) hx hb hwg iu_Shares hown hK hP 0 rfl rfl 0 (by decide) (hwg _ kw_38) (fun _ h9 => h9) rfl d_Shares_change_48 ?_
    refine lv_iload_n hx hb d_Shares_change_51 rfl (lv_at hl 3 rfl) ?_
    refine lv_iconst (v := 3) hx hb d_Shares_change_52 (by decide) ?_
    refine lv_imul hx hb d_Shares_change_53 ?_
    refine lv_iload_n hx hb d_Shares_change_54 rfl (lv_at hl 4 rfl) ?_
    refine lv_iadd hx hb d_Shares_change_55 ?_
    refine lv_iload_n hx hb d_Shares_change_56 rfl (lv_at hl 5 rfl) ?_
    refine va_iast hx hb hK hP hD hS 1 0 rfl rfl (in_sh hk hp) d_Shares_change_57 (fun H57 locs hP hD hS => ?_)
    have hP : va_P (dC, dI) vwCl [(aS, .inr (1, [.ref bS])), (bS, .inl (cI, 12, .inl (upd th (Int32.toNatClampNeg ((p1 * 3) + p2)) p3)))] H57 := hP
    have hD : va_D A [(aS, .inr (1, [.ref bS])), (bS, .inl (cI, 12, .inl (upd th (Int32.toNatClampNeg ((p1 * 3) + p2)) p3)))] := hD
    refine lv_iconst (v := 1) hx hb d_Shares_change_58 (by decide) ?_
    have hP9 := hP.sub (ws' := [(aS, .inr (1, [.ref bS])), (bS, .inl (cI, 12, .inl (upd th (Int32.toNatClampNeg ((p1 * 3) + p2)) p3)))]) [0, 1] rfl
    have hD9 := hD.sub (ws' := [(aS, .inr (1, [.ref bS])), (bS, .inl (cI, 12, .inl (upd th (Int32.toNatClampNeg ((p1 * 3) + p2)) p3)))]) [0, 1] (by decide) rfl
    exact W.zret (ty := .boolean) (v := 1) hx hb hr rfl (fun t ht hW => ⟨⟨1, (upd th (Int32.toNatClampNeg ((p1 * 3) + p2)) p3), rfl, by simp only [f_Shares_change, w4, w25, w25_2, w25_3, if_pos c42], by rw [ht]; exact hP9, hD9⟩, hS.F ht⟩) hS.2.2 d_Shares_change_59
  · refine lv_iconst (v := 0) hx hb d_Shares_change_45 (by decide) ?_
    have hP9 := hP.sub (ws' := [(aS, .inr (1, [.ref bS])), (bS, .inl (cI, 12, .inl th))]) [0, 1] rfl
    have hD9 := hD.sub (ws' := [(aS, .inr (1, [.ref bS])), (bS, .inl (cI, 12, .inl th))]) [0, 1] (by decide) rfl
    exact W.zret (ty := .boolean) (v := 0) hx hb hr rfl (fun t ht hW => ⟨⟨0, (th), rfl, by simp only [f_Shares_change, w4, w25, w25_2, w25_3, if_neg c42], by rw [ht]; exact hP9, hD9⟩, hS.F ht⟩) hS.2.2 d_Shares_change_46
def f_Told_hasRoomFor (tc : Int32) (p1 : Int32) : Int32 := if 30 < (tc + p1) then (0) else (1)
abbrev rm_Told_hasRoomFor : Room := { frames := 0, cells := 0, slots := 0, locals := 0 }
set_option maxHeartbeats 4000000 in
set_option maxRecDepth 100000 in
theorem c_Told_hasRoomFor (l : Launch) (dC : Nat → ClassId) (dI : Nat → Nat → Nat) (cI cL cZ : ClassId) (aT bT1 bT2 bT3 : Nat) (sz : Nat) (tc : Int32) (p1 : Int32) : Met l y_Told_hasRoomFor w_Told_hasRoomFor rm_Told_hasRoomFor (va_Pc [.ref aT, .int p1] (c_pre dC dI cI cL cZ [(aT, .inr (2, [.ref bT1, .ref bT2, .ref bT3, .int tc]))] sz)) (va_Qi (fun (r : Int32) (_ : Unit) => f_Told_hasRoomFor tc p1 = r) (c_post dC dI (fun (u : Unit) => [(aT, .inr (2, [.ref bT1, .ref bT2, .ref bT3, .int tc]))]) (va_A [(aT, .inr (2, [.ref bT1, .ref bT2, .ref bT3, .int tc]))] sz)) (va_A [(aT, .inr (2, [.ref bT1, .ref bT2, .ref bT3, .int tc]))] sz)) 0 0 (va_A [(aT, .inr (2, [.ref bT1, .ref bT2, .ref bT3, .int tc]))] sz) := by
  refine Met.ofW (cc := b_Told_hasRoomFor) (maxL := 2) (ret := (some .boolean)) (by decide) rfl ?_
  intro p e s m args below meth c s₁ B hml hv
  obtain ⟨rfl, hsz, hP, hK, hN, hD0⟩ := hv
  have hx := B.exec
  have hb := B.bytes
  have hr := B.returns
  have hts := atoms_spec (ws := w_Told_hasRoomFor) B.pre
  have hown : s.vm.findClass R_Told = some m.cls := findClass_of_methodNamed B.named
  have hlocks := B.notSynchronized
  have hwg : ∀ w ∈ wg, w.before ([.ref aT, .int p1] : List Value).toArray s = true := fun w h => hts w (List.mem_cons_of_mem _ h)
  subst hsz
  have hD := hD0.self (sz := s.heap.size)
  generalize hAe : va_A [(aT, .inr (2, [.ref bT1, .ref bT2, .ref bT3, .int tc]))] s.heap.size = A at hD ⊢
  have hA : ∀ q : Nat, s.heap.size ≤ q → A q := fun q h => by rw [← hAe]; exact Or.inr h
  have hS : va_S A s.heap s.heap [] := va_S.rf
  have hP : va_P (dC, dI) vwCl [(aT, .inr (2, [.ref bT1, .ref bT2, .ref bT3, .int tc]))] s.heap := hP
  have hl := lv_entry ([.ref aT, .int p1]) (n := 2) (Nat.le_of_ble_eq_true rfl)
  rw [lg_entry_eq]
  generalize (lg_sl ([.ref aT, .int p1]) ++ List.replicate (2 - (lg_sl ([.ref aT, .int p1])).length) Slot.unset).toArray = ls at hl ⊢
  have hl : lv_has ls 2 [(0, .ref aT), (1, .int p1)] := hl
  refine lv_aload_n hx hb d_Told_hasRoomFor_0 rfl (lv_at hl 0 rfl) ?_
  refine va_get (D := (dC, dI)) (ci := 2) (v := .int tc) (C := R_Told) (T := F_Told) (N := 4) hx hb hwg iu_Told hown hK hP 0 rfl rfl 3 (by decide) (hwg _ kw_48) (fun _ h9 => h9) rfl d_Told_hasRoomFor_1 ?_
  refine lv_iload_n hx hb d_Told_hasRoomFor_4 rfl (lv_at hl 1 rfl) ?_
  refine lv_iadd hx hb d_Told_hasRoomFor_5 ?_
  refine lv_bipush (v := 30) hx hb d_Told_hasRoomFor_6 (by decide) ?_
  refine lv_icmp_gt (tgt := 15) hx hb d_Told_hasRoomFor_8 (by decide) (fun (c8 : 30 < (tc + p1)) => ?_) (fun (c8 : ¬ (30 < (tc + p1))) => ?_)
  · refine lv_iconst (v := 0) hx hb d_Told_hasRoomFor_15 (by decide) ?_
    have hP9 := hP.sub (ws' := [(aT, .inr (2, [.ref bT1, .ref bT2, .ref bT3, .int tc]))]) [0] rfl
    have hD9 := hD.sub (ws' := [(aT, .inr (2, [.ref bT1, .ref bT2, .ref bT3, .int tc]))]) [0] (by decide) rfl
    exact W.zret (ty := .boolean) (v := 0) hx hb hr rfl (fun t ht hW => ⟨⟨0, (), rfl, by simp only [f_Told_hasRoomFor, if_pos c8], by rw [ht]; exact hP9, hD9⟩, hS.F ht⟩) hS.2.2 d_Told_hasRoomFor_16
  · refine lv_iconst (v := 1) hx hb d_Told_hasRoomFor_11 (by decide) ?_
    refine lv_goto (tgt := 16) hx hb d_Told_hasRoomFor_12 (by decide) ?_
    have hP9 := hP.sub (ws' := [(aT, .inr (2, [.ref bT1, .ref bT2, .ref bT3, .int tc]))]) [0] rfl
    have hD9 := hD.sub (ws' := [(aT, .inr (2, [.ref bT1, .ref bT2, .ref bT3, .int tc]))]) [0] (by decide) rfl
    exact W.zret (ty := .boolean) (v := 1) hx hb hr rfl (fun t ht hW => ⟨⟨1, (), rfl, by simp only [f_Told_hasRoomFor, if_neg c8], by rw [ht]; exact hP9, hD9⟩, hS.F ht⟩) hS.2.2 d_Told_hasRoomFor_16
theorem in_told {tc r : Int32} (h : vp_in tc 31) (w : f_Told_hasRoomFor tc 1 = r) (c : ¬ r = 0) : vp_in tc 30 := by
  rw [vp_in_iff] at h ⊢
  have e : (tc + 1).toInt = tc.toInt + 1 := by rw [i_add] <;> rw [t_1] <;> omega
  rw [← w] at c; unfold f_Told_hasRoomFor at c
  split at c
  · exact absurd rfl c
  · rename_i q
    rw [Int32.lt_iff_toInt_lt, e, t_30] at q; omega
def f_Told_add (tc : Int32) (tm : Nat → Int32) (tk : Nat → Int32) (tg : Nat → Int32) (p1 : Int32) (p2 : Int32) (p3 : Int32) : Int32 × (Nat → Int32) × (Nat → Int32) × (Nat → Int32) := let r2 := f_Told_hasRoomFor tc 1; if r2 = 0 then ((tc, tm, tk, tg)) else ((tc + 1, upd tm (Int32.toNatClampNeg tc) p1, upd tk (Int32.toNatClampNeg tc) p2, upd tg (Int32.toNatClampNeg tc) p3))
abbrev rm_Told_add : Room := { frames := 1, cells := 0, slots := 0, locals := 21 }
set_option maxHeartbeats 4000000 in
set_option maxRecDepth 100000 in
theorem c_Told_add (l : Launch) (dC : Nat → ClassId) (dI : Nat → Nat → Nat) (cI cL cZ : ClassId) (aT bT1 bT2 bT3 : Nat) (sz : Nat) (tc : Int32) (tm : Nat → Int32) (tk : Nat → Int32) (tg : Nat → Int32) (p1 : Int32) (p2 : Int32) (p3 : Int32) (hc : vp_in tc 31) : Met l y_Told_add w_Told_add rm_Told_add (va_Pc [.ref aT, .int p1, .int p2, .int p3] (c_pre dC dI cI cL cZ [(aT, .inr (2, [.ref bT1, .ref bT2, .ref bT3, .int tc])), (bT1, .inl (cI, 30, .inl tm)), (bT2, .inl (cI, 30, .inl tk)), (bT3, .inl (cI, 30, .inl tg))] sz)) (va_Qv (fun (u : Int32 × (Nat → Int32) × (Nat → Int32) × (Nat → Int32)) => f_Told_add tc tm tk tg p1 p2 p3 = u) (c_post dC dI (fun (u : Int32 × (Nat → Int32) × (Nat → Int32) × (Nat → Int32)) => [(aT, .inr (2, [.ref bT1, .ref bT2, .ref bT3, .int u.1])), (bT1, .inl (cI, 30, .inl u.2.1)), (bT2, .inl (cI, 30, .inl u.2.2.1)), (bT3, .inl (cI, 30, .inl u.2.2.2))]) (va_A [(aT, .inr (2, [.ref bT1, .ref bT2, .ref bT3, .int tc])), (bT1, .inl (cI, 30, .inl tm)), (bT2, .inl (cI, 30, .inl tk)), (bT3, .inl (cI, 30, .inl tg))] sz)) (va_A [(aT, .inr (2, [.ref bT1, .ref bT2, .ref bT3, .int tc])), (bT1, .inl (cI, 30, .inl tm)), (bT2, .inl (cI, 30, .inl tk)), (bT3, .inl (cI, 30, .inl tg))] sz)) 0 0 (va_A [(aT, .inr (2, [.ref bT1, .ref bT2, .ref bT3, .int tc])), (bT1, .inl (cI, 30, .inl tm)), (bT2, .inl (cI, 30, .inl tk)), (bT3, .inl (cI, 30, .inl tg))] sz) := by
  refine Met.ofW (cc := b_Told_add) (maxL := 4) (ret := none) (by decide) rfl ?_
  intro p e s m args below meth c s₁ B hml hv
  obtain ⟨rfl, hsz, hP, hK, hN, hD0⟩ := hv
  have hx := B.exec
  have hb := B.bytes
  have hr := B.returns
  have hts := atoms_spec (ws := w_Told_add) B.pre
  have hown : s.vm.findClass R_Told = some m.cls := findClass_of_methodNamed B.named
  have hlocks := B.notSynchronized
  have hwg : ∀ w ∈ wg, w.before ([.ref aT, .int p1, .int p2, .int p3] : List Value).toArray s = true := fun w h => hts w (List.mem_cons_of_mem _ h)
  subst hsz
  have hD := hD0.self (sz := s.heap.size)
  generalize hAe : va_A [(aT, .inr (2, [.ref bT1, .ref bT2, .ref bT3, .int tc])), (bT1, .inl (cI, 30, .inl tm)), (bT2, .inl (cI, 30, .inl tk)), (bT3, .inl (cI, 30, .inl tg))] s.heap.size = A at hD ⊢
  have hA : ∀ q : Nat, s.heap.size ≤ q → A q := fun q h => by rw [← hAe]; exact Or.inr h
  have hS : va_S A s.heap s.heap [] := va_S.rf
  have hP : va_P (dC, dI) vwCl [(aT, .inr (2, [.ref bT1, .ref bT2, .ref bT3, .int tc])), (bT1, .inl (cI, 30, .inl tm)), (bT2, .inl (cI, 30, .inl tk)), (bT3, .inl (cI, 30, .inl tg))] s.heap := hP
  have hl := lv_entry ([.ref aT, .int p1, .int p2, .int p3]) (n := 4) (Nat.le_of_ble_eq_true rfl)
  rw [lg_entry_eq]
  generalize (lg_sl ([.ref aT, .int p1, .int p2, .int p3]) ++ List.replicate (4 - (lg_sl ([.ref aT, .int p1, .int p2, .int p3])).length) Slot.unset).toArray = ls at hl ⊢
  have hl : lv_has ls 4 [(0, .ref aT), (1, .int p1), (2, .int p2), (3, .int p3)] := hl
  refine lv_aload_n hx hb d_Told_add_0 rfl (lv_at hl 0 rfl) ?_
  refine lv_iconst (v := 1) hx hb d_Told_add_1 (by decide) ?_
  have hPc := hP.sub (ws' := [(aT, .inr (2, [.ref bT1, .ref bT2, .ref bT3, .int tc]))]) [0] rfl
  have hDc := hD.sub (ws' := [(aT, .inr (2, [.ref bT1, .ref bT2, .ref bT3, .int tc]))]) [0] (by decide) rfl
  refine k_calli hP hD hS hA [0] [1, 2, 3] (wc := [(aT, .inr (2, [.ref bT1, .ref bT2, .ref bT3, .int tc]))]) (wr := [(bT1, .inl (cI, 30, .inl tm)), (bT2, .inl (cI, 30, .inl tk)), (bT3, .inl (cI, 30, .inl tg))]) rfl rfl (by decide) (by decide) (va_runV (As := [.int 1]) (rest := []) ⟨hx, hb, hml, hown, hwg⟩ (c_Told_hasRoomFor l dC dI cI cL cZ aT bT1 bT2 bT3 s.heap.size tc 1) (cwV 1 hwg (g_V kw_143 kw_136 kw_137 kw_16 kw_138) rfl rfl rfl (by decide +kernel) ⟨Nat.le_of_ble_eq_true rfl, Nat.le_of_ble_eq_true rfl⟩) ⟨c_pre_call, va_recv hK hPc (ci := 2) (q0 := 0) rfl rfl, c_pre_mk hPc hDc hK hN _⟩ rfl rfl hl.1 rfl (lv_room (Nat.le_of_ble_eq_true rfl)) d_Told_add_2 ⟨Nat.le_of_ble_eq_true rfl, Nat.le_of_ble_eq_true rfl⟩) (fun r2 u H2 locs w2 hz1 hP hD hS => ?_)
  have hP := hP.sub (ws' := [(aT, .inr (2, [.ref bT1, .ref bT2, .ref bT3, .int tc])), (bT1, .inl (cI, 30, .inl tm)), (bT2, .inl (cI, 30, .inl tk)), (bT3, .inl (cI, 30, .inl tg))]) [3, 0, 1, 2] rfl
  have hD := hD.sub (ws' := [(aT, .inr (2, [.ref bT1, .ref bT2, .ref bT3, .int tc])), (bT1, .inl (cI, 30, .inl tm)), (bT2, .inl (cI, 30, .inl tk)), (bT3, .inl (cI, 30, .inl tg))]) [3, 0, 1, 2] (by decide) rfl
  refine lv_if_ne (tgt := 9) hx hb d_Told_add_5 (by decide) (fun (c5 : ¬ (r2 = 0)) => ?_) (fun (c5 : r2 = 0) => ?_)
  · refine lv_aload_n hx hb d_Told_add_9 rfl (lv_at hl 0 rfl) ?_
    refine va_get (D := (dC, dI)) (ci := 2) (v := .ref bT1) (C := R_Told) (T := F_Told) (N := 4) hx hb hwg iu_Told hown hK hP 0 rfl rfl 0 (by decide) (hwg _ kw_45) (fun _ h9 => h9) rfl d_Told_add_10 ?_
    refine lv_aload_n hx hb d_Told_add_13 rfl (lv_at hl 0 rfl) ?_
    refine va_get (D := (dC, dI)) (ci := 2) (v := .int tc) (C := R_Told) (T := F_Told) (N := 4) hx hb hwg iu_Told hown hK hP 0 rfl rfl 3 (by decide) (hwg _ kw_48) (fun _ h9 => h9) rfl d_Told_add_14 ?_
    refine lv_iload_n hx hb d_Told_add_17 rfl (lv_at hl 1 rfl) ?_
    refine va_iast hx hb hK hP hD hS 1 0 rfl rfl (in_told hc w2 c5) d_Told_add_18 (fun H18 locs hP hD hS => ?_)
    have hP : va_P (dC, dI) vwCl [(aT, .inr (2, [.ref bT1, .ref bT2, .ref bT3, .int tc])), (bT1, .inl (cI, 30, .inl (upd tm (Int32.toNatClampNeg tc) p1))), (bT2, .inl (cI, 30, .inl tk)), (bT3, .inl (cI, 30, .inl tg))] H18 := hP
    have hD : va_D A [(aT, .inr (2, [.ref bT1, .ref bT2, .ref bT3, .int tc])), (bT1, .inl (cI, 30, .inl (upd tm (Int32.toNatClampNeg tc) p1))), (bT2, .inl (cI, 30, .inl tk)), (bT3, .inl (cI, 30, .inl tg))] := hD
    refine lv_aload_n hx hb d_Told_add_19 rfl (lv_at hl 0 rfl) ?_
    refine va_get (D := (dC, dI)) (ci := 2) (v := .ref bT2) (C := R_Told) (T := F_Told) (N := 4) hx hb hwg iu_Told hown hK hP 0 rfl rfl 1 (by decide) (hwg _ kw_46) (fun _ h9 => h9) rfl d_Told_add_20 ?_
    refine lv_aload_n hx hb d_Told_add_23 rfl (lv_at hl 0 rfl) ?_
    refine va_get (D := (dC, dI)) (ci := 2) (v := .int tc) (C := R_Told) (T := F_Told) (N := 4) hx hb hwg iu_Told hown hK hP 0 rfl rfl 3 (by decide) (hwg _ kw_48) (fun _ h9 => h9) rfl d_Told_add_24 ?_
    refine lv_iload_n hx hb d_Told_add_27 rfl (lv_at hl 2 rfl) ?_
    refine va_iast hx hb hK hP hD hS 2 0 rfl rfl (in_told hc w2 c5) d_Told_add_28 (fun H28 locs hP hD hS => ?_)
    have hP : va_P (dC, dI) vwCl [(aT, .inr (2, [.ref bT1, .ref bT2, .ref bT3, .int tc])), (bT1, .inl (cI, 30, .inl (upd tm (Int32.toNatClampNeg tc) p1))), (bT2, .inl (cI, 30, .inl (upd tk (Int32.toNatClampNeg tc) p2))), (bT3, .inl (cI, 30, .inl tg))] H28 := hP
    have hD : va_D A [(aT, .inr (2, [.ref bT1, .ref bT2, .ref bT3, .int tc])), (bT1, .inl (cI, 30, .inl (upd tm (Int32.toNatClampNeg tc) p1))), (bT2, .inl (cI, 30, .inl (upd tk (Int32.toNatClampNeg tc) p2))), (bT3, .inl (cI, 30, .inl tg))] := hD
    refine lv_aload_n hx hb d_Told_add_29 rfl (lv_at hl 0 rfl) ?_
    refine va_get (D := (dC, dI)) (ci := 2) (v := .ref bT3) (C := R_Told) (T := F_Told) (N := 4) hx hb hwg iu_Told hown hK hP 0 rfl rfl 2 (by decide) (hwg _ kw_47) (fun _ h9 => h9) rfl d_Told_add_30 ?_
    refine lv_aload_n hx hb d_Told_add_33 rfl (lv_at hl 0 rfl) ?_
    refine va_get (D := (dC, dI)) (ci := 2) (v := .int tc) (C := R_Told) (T := F_Told) (N := 4) hx hb hwg iu_Told hown hK hP 0 rfl rfl 3 (by decide) (hwg _ kw_48) (fun _ h9 => h9) rfl d_Told_add_34 ?_
    refine lv_iload_n hx hb d_Told_add_37 rfl (lv_at hl 3 rfl) ?_
    refine va_iast hx hb hK hP hD hS 3 0 rfl rfl (in_told hc w2 c5) d_Told_add_38 (fun H38 locs hP hD hS => ?_)
    have hP : va_P (dC, dI) vwCl [(aT, .inr (2, [.ref bT1, .ref bT2, .ref bT3, .int tc])), (bT1, .inl (cI, 30, .inl (upd tm (Int32.toNatClampNeg tc) p1))), (bT2, .inl (cI, 30, .inl (upd tk (Int32.toNatClampNeg tc) p2))), (bT3, .inl (cI, 30, .inl (upd tg (Int32.toNatClampNeg tc) p3)))] H38 := hP
    have hD : va_D A [(aT, .inr (2, [.ref bT1, .ref bT2, .ref bT3, .int tc])), (bT1, .inl (cI, 30, .inl (upd tm (Int32.toNatClampNeg tc) p1))), (bT2, .inl (cI, 30, .inl (upd tk (Int32.toNatClampNeg tc) p2))), (bT3, .inl (cI, 30, .inl (upd tg (Int32.toNatClampNeg tc) p3)))] := hD
    refine lv_aload_n hx hb d_Told_add_39 rfl (lv_at hl 0 rfl) ?_
    refine lv_dup hx hb d_Told_add_40 rfl ?_
    refine va_get (D := (dC, dI)) (ci := 2) (v := .int tc) (C := R_Told) (T := F_Told) (N := 4) hx hb hwg iu_Told hown hK hP 0 rfl rfl 3 (by decide) (hwg _ kw_48) (fun _ h9 => h9) rfl d_Told_add_41 ?_
    refine lv_iconst (v := 1) hx hb d_Told_add_44 (by decide) ?_
    refine lv_iadd hx hb d_Told_add_45 ?_
    refine va_put (D := (dC, dI)) (ci := 2) (v := .int (tc + 1)) (ty := .int) (C := R_Told) (T := F_Told) (N := 4) hx hb hwg iu_Told t_Told t_Told_ok n_Told hown hK hP hD hS 0 rfl rfl 3 (by decide) (hwg _ kw_48) (fun _ h9 => h9) rfl (by decide +kernel) rfl rfl (Nat.le_of_ble_eq_true rfl) d_Told_add_46 (fun H46 locs hP hD hS => ?_)
    have hP : va_P (dC, dI) vwCl [(aT, .inr (2, [.ref bT1, .ref bT2, .ref bT3, .int (tc + 1)])), (bT1, .inl (cI, 30, .inl (upd tm (Int32.toNatClampNeg tc) p1))), (bT2, .inl (cI, 30, .inl (upd tk (Int32.toNatClampNeg tc) p2))), (bT3, .inl (cI, 30, .inl (upd tg (Int32.toNatClampNeg tc) p3)))] H46 := hP
    have hD : va_D A [(aT, .inr (2, [.ref bT1, .ref bT2, .ref bT3, .int (tc + 1)])), (bT1, .inl (cI, 30, .inl (upd tm (Int32.toNatClampNeg tc) p1))), (bT2, .inl (cI, 30, .inl (upd tk (Int32.toNatClampNeg tc) p2))), (bT3, .inl (cI, 30, .inl (upd tg (Int32.toNatClampNeg tc) p3)))] := hD
    have hP9 := hP.sub (ws' := [(aT, .inr (2, [.ref bT1, .ref bT2, .ref bT3, .int (tc + 1)])), (bT1, .inl (cI, 30, .inl (upd tm (Int32.toNatClampNeg tc) p1))), (bT2, .inl (cI, 30, .inl (upd tk (Int32.toNatClampNeg tc) p2))), (bT3, .inl (cI, 30, .inl (upd tg (Int32.toNatClampNeg tc) p3)))]) [0, 1, 2, 3] rfl
    have hD9 := hD.sub (ws' := [(aT, .inr (2, [.ref bT1, .ref bT2, .ref bT3, .int (tc + 1)])), (bT1, .inl (cI, 30, .inl (upd tm (Int32.toNatClampNeg tc) p1))), (bT2, .inl (cI, 30, .inl (upd tk (Int32.toNatClampNeg tc) p2))), (bT3, .inl (cI, 30, .inl (upd tg (Int32.toNatClampNeg tc) p3)))]) [0, 1, 2, 3] (by decide) rfl
    exact W.vret hx hb hr (fun t ht hW => ⟨⟨(tc + 1, upd tm (Int32.toNatClampNeg tc) p1, upd tk (Int32.toNatClampNeg tc) p2, upd tg (Int32.toNatClampNeg tc) p3), rfl, by simp only [f_Told_add, w2, if_neg c5], by rw [ht]; exact hP9, hD9⟩, hS.F ht⟩) hS.2.2 d_Told_add_49
  · have hP9 := hP.sub (ws' := [(aT, .inr (2, [.ref bT1, .ref bT2, .ref bT3, .int tc])), (bT1, .inl (cI, 30, .inl tm)), (bT2, .inl (cI, 30, .inl tk)), (bT3, .inl (cI, 30, .inl tg))]) [0, 1, 2, 3] rfl
    have hD9 := hD.sub (ws' := [(aT, .inr (2, [.ref bT1, .ref bT2, .ref bT3, .int tc])), (bT1, .inl (cI, 30, .inl tm)), (bT2, .inl (cI, 30, .inl tk)), (bT3, .inl (cI, 30, .inl tg))]) [0, 1, 2, 3] (by decide) rfl
    exact W.vret hx hb hr (fun t ht hW => ⟨⟨(tc, tm, tk, tg), rfl, by simp only [f_Told_add, w2, if_pos c5], by rw [ht]; exact hP9, hD9⟩, hS.F ht⟩) hS.2.2 d_Told_add_8
theorem told_add_tc {tc tc2 p1 p2 p3 : Int32} {tm tk tg tm2 tk2 tg2 : Nat → Int32} (h : vp_in tc 31) (w : f_Told_add tc tm tk tg p1 p2 p3 = (tc2, tm2, tk2, tg2)) : vp_in tc2 31 := by
  unfold f_Told_add at w
  by_cases q : f_Told_hasRoomFor tc 1 = 0
  · simp only [q, if_true] at w
    cases w; exact h
  · simp only [q, if_false] at w
    cases w
    have h2 := in_told h rfl q
    rw [vp_in_iff] at h2 ⊢
    rw [i_add] <;> rw [t_1] <;> omega
theorem in_told_next {tc tc2 p1 p2 p3 : Int32} {tm tk tg tm2 tk2 tg2 : Nat → Int32} (h : vp_in tc 31) (w : f_Told_add tc tm tk tg p1 p2 p3 = (tc2, tm2, tk2, tg2)) : vp_in tc2 31 := told_add_tc h w
