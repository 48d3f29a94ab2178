theorem law_cont {k L : Nat} (hL : L ≤ 2560) (hk : k ≤ 512) (c : ¬ (nI L - 5 < nI (5 * k))) : 5 * k + 5 ≤ L := by
  have e1 : (nI L).toInt = (L : Int) := nI_toInt (by omega)
  have e2 : (5 : Int32).toInt = 5 := by decide
  have e3 : (nI L - 5).toInt = (L : Int) - 5 := by rw [i_sub] <;> rw [e1, e2] <;> omega
  rw [Int32.lt_iff_toInt_lt, e3, nI_toInt (by omega)] at c
  omega
set_option maxHeartbeats 8000000 in
set_option maxRecDepth 100000 in
theorem lc_dflt {p : Program} {l : Launch} {e : Env} {s : State} {m : MethodId} {below : List Frame} {meth : Method} {c : Code} {dC : Nat → ClassId} {dI : Nat → Nat → Nat} {cI cL cZ : ClassId} {b L : Nat} {xs : Nat → Int32} {x0 aS bS aT bT1 bT2 bT3 aK bK1 bK2 aG bG1 bG2 bG3 bG4 aP aL bL1 bL2 bL3 bL4 y0 eS eP eM eK eG eR eN eW eV eA eH eX eY eZ : Nat} (hL : L ≤ 2560) (C0 : lw_At p s m meth c b L xs) (hK : va_K (dC, dI) vwCl [(cI, .int), (cL, .long), (cZ, .boolean)] s) (hN : va_N s) {k : Nat} (hk : k ≤ 511) (hkL : 5 * k + 5 ≤ L) (ih : LH p l e s m below meth c dC dI cI cL cZ b x0 aS bS aT bT1 bT2 bT3 aK bK1 bK2 aG bG1 bG2 bG3 bG4 aP aL bL1 bL2 bL3 bL4 y0 eS eP eM eK eG eR eN eW eV eA eH eX eY eZ (k + 1)) {nm : Int32} {th : Nat → Int32} {tc : Int32} {tm : Nat → Int32} {tk : Nat → Int32} {tg : Nat → Int32} {sb : Int32} {cam : Int64} {gma : Int64} {he : Int64} {gi : Int64} {fl : Int64} {gr : Nat → Int64} {rt : Nat → Int32} {us : Int32} {mo : Int32} {rk : Nat → Int32} {nd : Nat → Int32} {gv : Nat → Int64} {od : Nat → Int32} {pn : Int32} {pl : Nat} {pk : Nat → Int64} {fo : Int32} {lg : Nat → Int32} {lc : Nat → Int32} {lx : Nat → Int32} {lt : Nat → Int32} {Mac : Nat → Int64} {Mhl : Nat → Int32} {Mpl : Int32} {bP : Nat} {H : Heap} {locs : List Loc} {ls : Array Slot} (hI : Inv k nm th tc tm tk tg sb cam gma he gi fl gr rt us mo rk nd gv od pn pl pk fo lg lc lx lt Mac Mhl Mpl) (hP : va_P (dC, dI) vwCl [(x0, .inr (0, [.ref aS, .ref aT, .ref aK, .ref aG, .ref aP, .ref aL, .int nm])), (aS, .inr (1, [.ref bS])), (bS, .inl (cI, 12, .inl th)), (aT, .inr (2, [.ref bT1, .ref bT2, .ref bT3, .int tc])), (bT1, .inl (cI, 30, .inl tm)), (bT2, .inl (cI, 30, .inl tk)), (bT3, .inl (cI, 30, .inl tg)), (aK, .inr (3, [.ref bK1, .ref bK2, .int sb, .long cam, .long gma])), (bK1, .inl (cL, 4, .inr (.inl gr))), (bK2, .inl (cI, 3, .inl rt)), (aG, .inr (4, [.ref bG1, .ref bG2, .ref bG3, .ref bG4, .int us, .int mo, .long he, .long gi, .long fl])), (bG1, .inl (cI, 4, .inl rk)), (bG2, .inl (cI, 4, .inl nd)), (bG3, .inl (cL, 4, .inr (.inl gv))), (bG4, .inl (cI, 4, .inl od)), (aP, .inr (5, [.ref bP, .int pn])), (bP, .inl (cL, pl, .inr (.inl pk))), (aL, .inr (6, [.ref bL1, .ref bL2, .ref bL3, .ref bL4, .int fo])), (bL1, .inl (cI, 4, .inl lg)), (bL2, .inl (cI, 4, .inl lc)), (bL3, .inl (cI, 4, .inl lx)), (bL4, .inl (cI, 4, .inl lt)), (y0, .inr (7, [.ref eS, .ref eP, .int tc, .ref eM, .ref eK, .ref eG, .ref eR, .long (Int32.toInt64 sb), .long (Int32.toInt64 mo), .int us, .ref eN, .ref eW, .ref eV, .int nm, .ref eA, .long cam, .long gma, .long gi, .long fl, .long he, .ref eH, .ref eX, .ref eY, .ref eZ, .int fo, .int Mpl])), (eS, .inl (cI, 12, .inl th)), (eP, .inl (cL, 4, .inr (.inl gr))), (eM, .inl (cI, 30, .inl tm)), (eK, .inl (cI, 30, .inl tk)), (eG, .inl (cI, 30, .inl tg)), (eR, .inl (cI, 3, .inl rt)), (eN, .inl (cI, 4, .inl rk)), (eW, .inl (cI, 4, .inl nd)), (eV, .inl (cL, 4, .inr (.inl gv))), (eA, .inl (cL, 10000, .inr (.inl Mac))), (eH, .inl (cZ, 4, .inl Mhl)), (eX, .inl (cI, 4, .inl lg)), (eY, .inl (cI, 4, .inl lc)), (eZ, .inl (cI, 4, .inl lx))] H) (hD : va_D (fun q : Nat => s.heap.size ≤ q) [(x0, .inr (0, [.ref aS, .ref aT, .ref aK, .ref aG, .ref aP, .ref aL, .int nm])), (aS, .inr (1, [.ref bS])), (bS, .inl (cI, 12, .inl th)), (aT, .inr (2, [.ref bT1, .ref bT2, .ref bT3, .int tc])), (bT1, .inl (cI, 30, .inl tm)), (bT2, .inl (cI, 30, .inl tk)), (bT3, .inl (cI, 30, .inl tg)), (aK, .inr (3, [.ref bK1, .ref bK2, .int sb, .long cam, .long gma])), (bK1, .inl (cL, 4, .inr (.inl gr))), (bK2, .inl (cI, 3, .inl rt)), (aG, .inr (4, [.ref bG1, .ref bG2, .ref bG3, .ref bG4, .int us, .int mo, .long he, .long gi, .long fl])), (bG1, .inl (cI, 4, .inl rk)), (bG2, .inl (cI, 4, .inl nd)), (bG3, .inl (cL, 4, .inr (.inl gv))), (bG4, .inl (cI, 4, .inl od)), (aP, .inr (5, [.ref bP, .int pn])), (bP, .inl (cL, pl, .inr (.inl pk))), (aL, .inr (6, [.ref bL1, .ref bL2, .ref bL3, .ref bL4, .int fo])), (bL1, .inl (cI, 4, .inl lg)), (bL2, .inl (cI, 4, .inl lc)), (bL3, .inl (cI, 4, .inl lx)), (bL4, .inl (cI, 4, .inl lt)), (y0, .inr (7, [.ref eS, .ref eP, .int tc, .ref eM, .ref eK, .ref eG, .ref eR, .long (Int32.toInt64 sb), .long (Int32.toInt64 mo), .int us, .ref eN, .ref eW, .ref eV, .int nm, .ref eA, .long cam, .long gma, .long gi, .long fl, .long he, .ref eH, .ref eX, .ref eY, .ref eZ, .int fo, .int Mpl])), (eS, .inl (cI, 12, .inl th)), (eP, .inl (cL, 4, .inr (.inl gr))), (eM, .inl (cI, 30, .inl tm)), (eK, .inl (cI, 30, .inl tk)), (eG, .inl (cI, 30, .inl tg)), (eR, .inl (cI, 3, .inl rt)), (eN, .inl (cI, 4, .inl rk)), (eW, .inl (cI, 4, .inl nd)), (eV, .inl (cL, 4, .inr (.inl gv))), (eA, .inl (cL, 10000, .inr (.inl Mac))), (eH, .inl (cZ, 4, .inl Mhl)), (eX, .inl (cI, 4, .inl lg)), (eY, .inl (cI, 4, .inl lc)), (eZ, .inl (cI, 4, .inl lx))]) (hS : va_S (fun q : Nat => s.heap.size ≤ q) s.heap H locs) (hl : lv_has ls 4 [(0, .ref b), (1, .ref x0), (2, .ref y0), (3, .int (nI (5 * k)))]) : W p l e room_1 s m #[Value.ref b] below meth c H locs (40 + k) (11000 + 10000 * k) (lw_Z below #[Value.ref b] s) (F0 m 648 ls []) := by
  obtain ⟨hx, hb, hr, hml, hown, hts, hX, hbl, hlocks, hgv⟩ := C0
  have hown : s.vm.findClass R_Law = some m.cls := hown
  have hwg : ∀ w ∈ wg, w.before #[Value.ref b] s = true := fun w h => hts w (wg_tbl h)
  have hA : ∀ q : Nat, s.heap.size ≤ q → (fun q : Nat => s.heap.size ≤ q) q := fun _ h => h
  have hbA : ¬ (fun q : Nat => s.heap.size ≤ q) b := Nat.not_le.mpr hbl
  refine lv_iinc (v := nI (5 * (k + 1))) (lv' := [(3, .int (nI (5 * (k + 1)))), (0, .ref b), (1, .ref x0), (2, .ref y0)]) hx hb d_Law_law_648 hl (k := 3) rfl (law_i5 k) (by decide) rfl (fun ls hl => ?_)
  refine lv_goto (tgt := 18) hx hb d_Law_law_651 (by decide) ?_
  refine W.widen (k := 40 + (k + 1)) (n := 11000 + 10000 * (k + 1)) (by omega) (by omega) ?_
  exact ih _ _ _ _ _ _ _ _ _ _ _ _ _ _ _ _ _ _ _ _ _ _ _ _ _ _ _ _ _ _ _ bP _ _ _ hI.next (hP.sub [0, 1, 2, 3, 4, 5, 6, 7, 8, 9, 10, 11, 12, 13, 14, 15, 16, 17, 18, 19, 20, 21, 22, 23, 24, 25, 26, 27, 28, 29, 30, 31, 32, 33, 34, 35, 36] rfl) (hD.sub [0, 1, 2, 3, 4, 5, 6, 7, 8, 9, 10, 11, 12, 13, 14, 15, 16, 17, 18, 19, 20, 21, 22, 23, 24, 25, 26, 27, 28, 29, 30, 31, 32, 33, 34, 35, 36] (by decide) rfl) hS (lv_sub hl [1, 2, 3, 0] rfl)
set_option maxHeartbeats 8000000 in
set_option maxRecDepth 100000 in
theorem law_loop {p : Program} {l : Launch} {e : Env} {s : State} {m : MethodId} {below : List Frame} {meth : Method} {c : Code} {dC : Nat → ClassId} {dI : Nat → Nat → Nat} {cI cL cZ : ClassId} {b L : Nat} {xs : Nat → Int32} {x0 aS bS aT bT1 bT2 bT3 aK bK1 bK2 aG bG1 bG2 bG3 bG4 aP aL bL1 bL2 bL3 bL4 y0 eS eP eM eK eG eR eN eW eV eA eH eX eY eZ : Nat} (hL : L ≤ 2560) (C0 : lw_At p s m meth c b L xs) (hK : va_K (dC, dI) vwCl [(cI, .int), (cL, .long), (cZ, .boolean)] s) (hN : va_N s) : ∀ (n k : Nat), k ≤ 512 → 513 ≤ k + n → LH p l e s m below meth c dC dI cI cL cZ b x0 aS bS aT bT1 bT2 bT3 aK bK1 bK2 aG bG1 bG2 bG3 bG4 aP aL bL1 bL2 bL3 bL4 y0 eS eP eM eK eG eR eN eW eV eA eH eX eY eZ k := by
  intro n
  induction n with
  | zero => intro k h1 h2; omega
  | succ n ih =>
    intro k hk hn
    intro nm th tc tm tk tg sb cam gma he gi fl gr rt us mo rk nd gv od pn pl pk fo lg lc lx lt Mac Mhl Mpl bP H locs ls hI hP hD hS hl
    obtain ⟨hx, hb, hr, hml, hown, hts, hX, hbl, hlocks, hgv⟩ := id C0
    have hbA : ¬ (fun q : Nat => s.heap.size ≤ q) b := Nat.not_le.mpr hbl
    refine lv_iload_n hx hb d_Law_law_18 rfl (lv_at hl 3 rfl) ?_
    refine lv_aload_n hx hb d_Law_law_19 rfl (lv_at hl 0 rfl) ?_
    refine va_slen hx hb hX hbl hbA hS d_Law_law_20 ?_
    refine lv_iconst (v := 5) hx hb d_Law_law_21 (by decide) ?_
    refine lv_isub hx hb d_Law_law_22 ?_
    refine lv_icmp_gt (tgt := 654) hx hb d_Law_law_23 (by decide) (fun (c23 : nI L - 5 < nI (5 * k)) => ?_) (fun (c23 : ¬ (nI L - 5 < nI (5 * k))) => ?_)
    · refine lv_iconst (v := 1) hx hb d_Law_law_654 (by decide) ?_
      refine va_forget (fun q hq => hS.2.2 q hq) ?_
      refine W.widen (k := 600000) (n := 7302250) (by omega) (by omega) ?_
      exact lw_ret hx hb hr hlocks d_Law_law_655
    · have hkL := law_cont hL hk c23
      have hk1 : k ≤ 511 := by omega
      have ihk := ih (k + 1) (by omega) (by omega)
      refine lv_aload_n hx hb d_Law_law_26 rfl (lv_at hl 0 rfl) ?_
      refine lv_iload_n hx hb d_Law_law_27 rfl (lv_at hl 3 rfl) ?_
      refine va_sld hx hb hX hbl hbA hS (law_in0 hL (by omega)) d_Law_law_28 ?_
      refine lv_bipush (v := 31) hx hb d_Law_law_29 (by decide) ?_
      refine lv_iand hx hb d_Law_law_31 ?_
      refine lv_topi (fun v _ => ?_)
      by_cases c0 : v = 0
      · refine lv_tableIn (off := 88) (tgt := 120) hx hb d_Law_law_32 (by rw [c0]; decide) (by rw [c0]; decide) (by rw [c0]; decide) (by decide) ?_
        exact lc_kind hL C0 hK hN hk1 hkL ihk hI hP hD hS hl
      by_cases c1 : v = 1
      · refine lv_tableIn (off := 131) (tgt := 163) hx hb d_Law_law_32 (by rw [c1]; decide) (by rw [c1]; decide) (by rw [c1]; decide) (by decide) ?_
        exact lc_start hL C0 hK hN hk1 hkL ihk hI hP hD hS hl
      by_cases c2 : v = 2
      · refine lv_tableIn (off := 164) (tgt := 196) hx hb d_Law_law_32 (by rw [c2]; decide) (by rw [c2]; decide) (by rw [c2]; decide) (by decide) ?_
        exact lc_feed hL C0 hK hN hk1 hkL ihk hI hP hD hS hl
      by_cases c3 : v = 3
      · refine lv_tableIn (off := 207) (tgt := 239) hx hb d_Law_law_32 (by rw [c3]; decide) (by rw [c3]; decide) (by rw [c3]; decide) (by decide) ?_
        exact lc_rate hL C0 hK hN hk1 hkL ihk hI hP hD hS hl
      by_cases c4 : v = 4
      · refine lv_tableIn (off := 240) (tgt := 272) hx hb d_Law_law_32 (by rw [c4]; decide) (by rw [c4]; decide) (by rw [c4]; decide) (by decide) ?_
        exact lc_bound hL C0 hK hN hk1 hkL ihk hI hP hD hS hl
      by_cases c5 : v = 5
      · refine lv_tableIn (off := 263) (tgt := 295) hx hb d_Law_law_32 (by rw [c5]; decide) (by rw [c5]; decide) (by rw [c5]; decide) (by decide) ?_
        exact lc_room hL C0 hK hN hk1 hkL ihk hI hP hD hS hl
      by_cases c6 : v = 6
      · refine lv_tableIn (off := 286) (tgt := 318) hx hb d_Law_law_32 (by rw [c6]; decide) (by rw [c6]; decide) (by rw [c6]; decide) (by decide) ?_
        exact lc_rank hL C0 hK hN hk1 hkL ihk hI hP hD hS hl
      by_cases c7 : v = 7
      · refine lv_tableIn (off := 319) (tgt := 351) hx hb d_Law_law_32 (by rw [c7]; decide) (by rw [c7]; decide) (by rw [c7]; decide) (by decide) ?_
        exact lc_run hL C0 hK hN hk1 hkL ihk hI hP hD hS hl
      by_cases c8 : v = 8
      · refine lv_tableIn (off := 342) (tgt := 374) hx hb d_Law_law_32 (by rw [c8]; decide) (by rw [c8]; decide) (by rw [c8]; decide) (by decide) ?_
        exact lc_at hL C0 hK hN hk1 hkL ihk hI hP hD hS hl
      by_cases c9 : v = 9
      · refine lv_tableIn (off := 366) (tgt := 398) hx hb d_Law_law_32 (by rw [c9]; decide) (by rw [c9]; decide) (by rw [c9]; decide) (by decide) ?_
        exact lc_given hL C0 hK hN hk1 hkL ihk hI hP hD hS hl
      by_cases c10 : v = 10
      · refine lv_tableIn (off := 390) (tgt := 422) hx hb d_Law_law_32 (by rw [c10]; decide) (by rw [c10]; decide) (by rw [c10]; decide) (by decide) ?_
        exact lc_gone hL C0 hK hN hk1 hkL ihk hI hP hD hS hl
      by_cases c11 : v = 11
      · refine lv_tableIn (off := 414) (tgt := 446) hx hb d_Law_law_32 (by rw [c11]; decide) (by rw [c11]; decide) (by rw [c11]; decide) (by decide) ?_
        exact lc_balance hL C0 hK hN hk1 hkL ihk hI hP hD hS hl
      by_cases c12 : v = 12
      · refine lv_tableIn (off := 438) (tgt := 470) hx hb d_Law_law_32 (by rw [c12]; decide) (by rw [c12]; decide) (by rw [c12]; decide) (by decide) ?_
        exact lc_acid hL C0 hK hN hk1 hkL ihk hI hP hD hS hl
      by_cases c13 : v = 13
      · refine lv_tableIn (off := 451) (tgt := 483) hx hb d_Law_law_32 (by rw [c13]; decide) (by rw [c13]; decide) (by rw [c13]; decide) (by decide) ?_
        exact lc_sour hL C0 hK hN hk1 hkL ihk hI hP hD hS hl
      by_cases c14 : v = 14
      · refine lv_tableIn (off := 504) (tgt := 536) hx hb d_Law_law_32 (by rw [c14]; decide) (by rw [c14]; decide) (by rw [c14]; decide) (by decide) ?_
        exact lc_load hL C0 hK hN hk1 hkL ihk hI hP hD hS hl
      by_cases c15 : v = 15
      · refine lv_tableIn (off := 557) (tgt := 589) hx hb d_Law_law_32 (by rw [c15]; decide) (by rw [c15]; decide) (by rw [c15]; decide) (by decide) ?_
        exact lc_plan hL C0 hK hN hk1 hkL ihk hI hP hD hS hl
      by_cases c16 : v = 16
      · refine lv_tableIn (off := 580) (tgt := 612) hx hb d_Law_law_32 (by rw [c16]; decide) (by rw [c16]; decide) (by rw [c16]; decide) (by decide) ?_
        exact lc_planned hL C0 hK hN hk1 hkL ihk hI hP hD hS hl
      by_cases c17 : v = 17
      · refine lv_tableIn (off := 603) (tgt := 635) hx hb d_Law_law_32 (by rw [c17]; decide) (by rw [c17]; decide) (by rw [c17]; decide) (by decide) ?_
        exact lc_serve hL C0 hK hN hk1 hkL ihk hI hP hD hS hl
      refine lv_tableOut (tgt := 648) hx hb d_Law_law_32 (by have t0 := lv_neT (a := 0) c0 (by decide); have t1 := lv_neT (a := 1) c1 (by decide); have t2 := lv_neT (a := 2) c2 (by decide); have t3 := lv_neT (a := 3) c3 (by decide); have t4 := lv_neT (a := 4) c4 (by decide); have t5 := lv_neT (a := 5) c5 (by decide); have t6 := lv_neT (a := 6) c6 (by decide); have t7 := lv_neT (a := 7) c7 (by decide); have t8 := lv_neT (a := 8) c8 (by decide); have t9 := lv_neT (a := 9) c9 (by decide); have t10 := lv_neT (a := 10) c10 (by decide); have t11 := lv_neT (a := 11) c11 (by decide); have t12 := lv_neT (a := 12) c12 (by decide); have t13 := lv_neT (a := 13) c13 (by decide); have t14 := lv_neT (a := 14) c14 (by decide); have t15 := lv_neT (a := 15) c15 (by decide); have t16 := lv_neT (a := 16) c16 (by decide); have t17 := lv_neT (a := 17) c17 (by decide); omega) (by decide) ?_
      exact lc_dflt hL C0 hK hN hk1 hkL ihk hI hP hD hS hl
