-- ===== PART A: goes FIRST, ahead of the names: the tables' words, and 'selects' of the private methods out of them =====
/-- a private method of a class that the tables say can be made, by its rows of tables_1 -/
def lw_okq (q : MethodName × Nat) : Prop := (q.1.cls ≠ "java/lang/invoke/MethodHandle" ∧ q.1.cls ≠ "java/lang/invoke/VarHandle") ∧ Cond.instantiable q.1.cls q.2 ∈ tables_1 ∧ Cond.privateMethod q.1 ∈ tables_1 ∧ Cond.instanceMethod q.1 ∈ tables_1
theorem lw_p0 : lw_okq (⟨"DigesterRates", "passMinute", "()V"⟩, 7) := ⟨⟨by decide +kernel, by decide +kernel⟩, List.mem_of_getElem? (i := 13) (by decide +kernel), List.mem_of_getElem? (i := 278) (by decide +kernel), List.mem_of_getElem? (i := 279) (by decide +kernel)⟩
theorem lw_p1 : lw_okq (⟨"DigesterRates", "takeInTold", "()V"⟩, 7) := ⟨⟨by decide +kernel, by decide +kernel⟩, List.mem_of_getElem? (i := 13) (by decide +kernel), List.mem_of_getElem? (i := 282) (by decide +kernel), List.mem_of_getElem? (i := 283) (by decide +kernel)⟩
theorem lw_p2 : lw_okq (⟨"DigesterRates", "takeIn", "(IJ)V"⟩, 7) := ⟨⟨by decide +kernel, by decide +kernel⟩, List.mem_of_getElem? (i := 13) (by decide +kernel), List.mem_of_getElem? (i := 286) (by decide +kernel), List.mem_of_getElem? (i := 287) (by decide +kernel)⟩
theorem lw_p3 : lw_okq (⟨"DigesterRates$Tank", "speed", "()J"⟩, 5) := ⟨⟨by decide +kernel, by decide +kernel⟩, List.mem_of_getElem? (i := 55) (by decide +kernel), List.mem_of_getElem? (i := 299) (by decide +kernel), List.mem_of_getElem? (i := 300) (by decide +kernel)⟩
theorem lw_p4 : lw_okq (⟨"DigesterRates$Tank", "broken", "(IJ)J"⟩, 5) := ⟨⟨by decide +kernel, by decide +kernel⟩, List.mem_of_getElem? (i := 55) (by decide +kernel), List.mem_of_getElem? (i := 304) (by decide +kernel), List.mem_of_getElem? (i := 305) (by decide +kernel)⟩
theorem lw_p5 : lw_okq (⟨"DigesterRates$GasStore", "giveTo", "(I)V"⟩, 9) := ⟨⟨by decide +kernel, by decide +kernel⟩, List.mem_of_getElem? (i := 84) (by decide +kernel), List.mem_of_getElem? (i := 317) (by decide +kernel), List.mem_of_getElem? (i := 318) (by decide +kernel)⟩
theorem lw_p6 : lw_okq (⟨"DigesterRates$Tank", "isSour", "(J)Z"⟩, 5) := ⟨⟨by decide +kernel, by decide +kernel⟩, List.mem_of_getElem? (i := 55) (by decide +kernel), List.mem_of_getElem? (i := 362) (by decide +kernel), List.mem_of_getElem? (i := 363) (by decide +kernel)⟩
theorem lw_p7 : lw_okq (⟨"DigesterRates$Planner", "mostTimes", "(I)I"⟩, 5) := ⟨⟨by decide +kernel, by decide +kernel⟩, List.mem_of_getElem? (i := 137) (by decide +kernel), List.mem_of_getElem? (i := 391) (by decide +kernel), List.mem_of_getElem? (i := 392) (by decide +kernel)⟩
theorem lw_p8 : lw_okq (⟨"DigesterRates$Planner", "fewestOfLast", "(I)I"⟩, 5) := ⟨⟨by decide +kernel, by decide +kernel⟩, List.mem_of_getElem? (i := 137) (by decide +kernel), List.mem_of_getElem? (i := 398) (by decide +kernel), List.mem_of_getElem? (i := 399) (by decide +kernel)⟩
theorem lw_p9 : lw_okq (⟨"DigesterRates$Planner", "keep", "(IIII)V"⟩, 5) := ⟨⟨by decide +kernel, by decide +kernel⟩, List.mem_of_getElem? (i := 137) (by decide +kernel), List.mem_of_getElem? (i := 402) (by decide +kernel), List.mem_of_getElem? (i := 403) (by decide +kernel)⟩
theorem lw_p10 : lw_okq (⟨"DigesterRatesModel", "minute", "()V"⟩, 26) := ⟨⟨by decide +kernel, by decide +kernel⟩, List.mem_of_getElem? (i := 418) (by decide +kernel), List.mem_of_getElem? (i := 550) (by decide +kernel), List.mem_of_getElem? (i := 551) (by decide +kernel)⟩
theorem lw_p11 : lw_okq (⟨"DigesterRatesModel", "comes", "(IJ)V"⟩, 26) := ⟨⟨by decide +kernel, by decide +kernel⟩, List.mem_of_getElem? (i := 418) (by decide +kernel), List.mem_of_getElem? (i := 554) (by decide +kernel), List.mem_of_getElem? (i := 555) (by decide +kernel)⟩
theorem lw_p12 : lw_okq (⟨"DigesterRatesModel", "steps", "(JI)J"⟩, 26) := ⟨⟨by decide +kernel, by decide +kernel⟩, List.mem_of_getElem? (i := 418) (by decide +kernel), List.mem_of_getElem? (i := 558) (by decide +kernel), List.mem_of_getElem? (i := 559) (by decide +kernel)⟩
def lw_privs_1 : List (MethodName × Nat) := [(⟨"DigesterRates", "passMinute", "()V"⟩, 7), (⟨"DigesterRates", "takeInTold", "()V"⟩, 7), (⟨"DigesterRates", "takeIn", "(IJ)V"⟩, 7), (⟨"DigesterRates$Tank", "speed", "()J"⟩, 5), (⟨"DigesterRates$Tank", "broken", "(IJ)J"⟩, 5), (⟨"DigesterRates$GasStore", "giveTo", "(I)V"⟩, 9), (⟨"DigesterRates$Tank", "isSour", "(J)Z"⟩, 5), (⟨"DigesterRates$Planner", "mostTimes", "(I)I"⟩, 5), (⟨"DigesterRates$Planner", "fewestOfLast", "(I)I"⟩, 5), (⟨"DigesterRates$Planner", "keep", "(IIII)V"⟩, 5), (⟨"DigesterRatesModel", "minute", "()V"⟩, 26), (⟨"DigesterRatesModel", "comes", "(IJ)V"⟩, 26), (⟨"DigesterRatesModel", "steps", "(JI)J"⟩, 26)]
theorem lw_r1 : ∀ q ∈ lw_privs_1, lw_okq q := List.forall_mem_cons.mpr ⟨lw_p0, List.forall_mem_cons.mpr ⟨lw_p1, List.forall_mem_cons.mpr ⟨lw_p2, List.forall_mem_cons.mpr ⟨lw_p3, List.forall_mem_cons.mpr ⟨lw_p4, List.forall_mem_cons.mpr ⟨lw_p5, List.forall_mem_cons.mpr ⟨lw_p6, List.forall_mem_cons.mpr ⟨lw_p7, List.forall_mem_cons.mpr ⟨lw_p8, List.forall_mem_cons.mpr ⟨lw_p9, List.forall_mem_cons.mpr ⟨lw_p10, List.forall_mem_cons.mpr ⟨lw_p11, List.forall_mem_cons.mpr ⟨lw_p12, fun _ h => absurd h List.not_mem_nil⟩⟩⟩⟩⟩⟩⟩⟩⟩⟩⟩⟩⟩
def lw_privs : List (MethodName × Nat) := lw_privs_1
def lw_tbl : List Cond := k2_sels lw_privs ++ tables_1
theorem lw_privs_ok : ∀ q ∈ lw_privs, lw_okq q := lw_r1
-- ===== end of PART A =====
def wg : List Cond := lw_tbl.filter goodWord
theorem wg_in {w : Cond} (i : Nat) (h : lw_tbl[i]? = some w) (hg : goodWord w = true) : w ∈ wg := List.mem_filter.mpr ⟨List.mem_of_getElem? h, hg⟩
theorem wg_good {w : Cond} (h : w ∈ wg) : (w.onTables && w.keeps) = true ∨ ∃ ty, w = .arrayClass ty := good_of_word (List.mem_filter.mp h).2
theorem wg_tbl {w : Cond} (h : w ∈ wg) : w ∈ lw_tbl := (List.mem_filter.mp h).1
def R_Law : String := "DigesterRatesLaw"
def R_Arrays : String := "java/util/Arrays"
def R_DR : String := "DigesterRates"
def F_DR : u_T := fun k => match k with
  | 0 => ("DigesterRates", "shares", "LDigesterRates$Shares;", true)
  | 1 => ("DigesterRates", "told", "LDigesterRates$Told;", true)
  | 2 => ("DigesterRates", "tank", "LDigesterRates$Tank;", true)
  | 3 => ("DigesterRates", "store", "LDigesterRates$GasStore;", true)
  | 4 => ("DigesterRates", "peaks", "LDigesterRates$AcidPeaks;", true)
  | 5 => ("DigesterRates", "planner", "LDigesterRates$Planner;", true)
  | _ => ("DigesterRates", "nextMinute", "I", false)
def t_DR : Nat → FieldType := fun k => match k with
  | 0 => .object "DigesterRates$Shares"
  | 1 => .object "DigesterRates$Told"
  | 2 => .object "DigesterRates$Tank"
  | 3 => .object "DigesterRates$GasStore"
  | 4 => .object "DigesterRates$AcidPeaks"
  | 5 => .object "DigesterRates$Planner"
  | _ => .int
theorem n_DR : ∀ a, a < 7 → ∀ b, b < 7 → a ≠ b → (F_DR a).2.1 ≠ (F_DR b).2.1 := by decide +kernel
theorem t_DR_ok : ∀ k, k < 7 → parseFieldDescriptor (F_DR k).2.2.1 = some (t_DR k) := by decide +kernel
theorem iu_DR : ∀ w ∈ u_ws R_DR F_DR 7, w ∈ wg := by
  intro w hw
  obtain ⟨k, hk, rfl⟩ := List.mem_map.mp hw
  have hk := List.mem_range.mp hk
  match k, hk with
    | 0, hk => exact wg_in 181 (by decide +kernel) (by decide +kernel)
    | 1, hk => exact wg_in 183 (by decide +kernel) (by decide +kernel)
    | 2, hk => exact wg_in 185 (by decide +kernel) (by decide +kernel)
    | 3, hk => exact wg_in 187 (by decide +kernel) (by decide +kernel)
    | 4, hk => exact wg_in 189 (by decide +kernel) (by decide +kernel)
    | 5, hk => exact wg_in 191 (by decide +kernel) (by decide +kernel)
    | 6, hk => exact wg_in 193 (by decide +kernel) (by decide +kernel)
    | k + 7, hk => omega
def R_Shares : String := "DigesterRates$Shares"
def F_Shares : u_T := fun k => match k with
  | _ => ("DigesterRates$Shares", "thousandths", "[I", true)
def t_Shares : Nat → FieldType := fun k => match k with
  | _ => .array .int
theorem n_Shares : ∀ a, a < 1 → ∀ b, b < 1 → a ≠ b → (F_Shares a).2.1 ≠ (F_Shares b).2.1 := by decide +kernel
theorem t_Shares_ok : ∀ k, k < 1 → parseFieldDescriptor (F_Shares k).2.2.1 = some (t_Shares k) := by decide +kernel
theorem iu_Shares : ∀ w ∈ u_ws R_Shares F_Shares 1, w ∈ wg := by
  intro w hw
  obtain ⟨k, hk, rfl⟩ := List.mem_map.mp hw
  have hk := List.mem_range.mp hk
  match k, hk with
    | 0, hk => exact wg_in 40 (by decide +kernel) (by decide +kernel)
    | k + 1, hk => omega
def R_Told : String := "DigesterRates$Told"
def F_Told : u_T := fun k => match k with
  | 0 => ("DigesterRates$Told", "minutes", "[I", true)
  | 1 => ("DigesterRates$Told", "kinds", "[I", true)
  | 2 => ("DigesterRates$Told", "grams", "[I", true)
  | _ => ("DigesterRates$Told", "count", "I", false)
def t_Told : Nat → FieldType := fun k => match k with
  | 0 => .array .int
  | 1 => .array .int
  | 2 => .array .int
  | _ => .int
theorem n_Told : ∀ a, a < 4 → ∀ b, b < 4 → a ≠ b → (F_Told a).2.1 ≠ (F_Told b).2.1 := by decide +kernel
theorem t_Told_ok : ∀ k, k < 4 → parseFieldDescriptor (F_Told k).2.2.1 = some (t_Told k) := by decide +kernel
theorem iu_Told : ∀ w ∈ u_ws R_Told F_Told 4, w ∈ wg := by
  intro w hw
  obtain ⟨k, hk, rfl⟩ := List.mem_map.mp hw
  have hk := List.mem_range.mp hk
  match k, hk with
    | 0, hk => exact wg_in 58 (by decide +kernel) (by decide +kernel)
    | 1, hk => exact wg_in 60 (by decide +kernel) (by decide +kernel)
    | 2, hk => exact wg_in 62 (by decide +kernel) (by decide +kernel)
    | 3, hk => exact wg_in 64 (by decide +kernel) (by decide +kernel)
    | k + 4, hk => omega
def R_Tank : String := "DigesterRates$Tank"
def F_Tank : u_T := fun k => match k with
  | 0 => ("DigesterRates$Tank", "grams", "[J", true)
  | 1 => ("DigesterRates$Tank", "rates", "[I", true)
  | 2 => ("DigesterRates$Tank", "slowingBound", "I", false)
  | 3 => ("DigesterRates$Tank", "cameIn", "J", false)
  | _ => ("DigesterRates$Tank", "gasMade", "J", false)
def t_Tank : Nat → FieldType := fun k => match k with
  | 0 => .array .long
  | 1 => .array .int
  | 2 => .int
  | 3 => .long
  | _ => .long
theorem n_Tank : ∀ a, a < 5 → ∀ b, b < 5 → a ≠ b → (F_Tank a).2.1 ≠ (F_Tank b).2.1 := by decide +kernel
theorem t_Tank_ok : ∀ k, k < 5 → parseFieldDescriptor (F_Tank k).2.2.1 = some (t_Tank k) := by decide +kernel
theorem iu_Tank : ∀ w ∈ u_ws R_Tank F_Tank 5, w ∈ wg := by
  intro w hw
  obtain ⟨k, hk, rfl⟩ := List.mem_map.mp hw
  have hk := List.mem_range.mp hk
  match k, hk with
    | 0, hk => exact wg_in 84 (by decide +kernel) (by decide +kernel)
    | 1, hk => exact wg_in 86 (by decide +kernel) (by decide +kernel)
    | 2, hk => exact wg_in 88 (by decide +kernel) (by decide +kernel)
    | 3, hk => exact wg_in 90 (by decide +kernel) (by decide +kernel)
    | 4, hk => exact wg_in 92 (by decide +kernel) (by decide +kernel)
    | k + 5, hk => omega
def R_GasStore : String := "DigesterRates$GasStore"
def F_GasStore : u_T := fun k => match k with
  | 0 => ("DigesterRates$GasStore", "ranks", "[I", true)
  | 1 => ("DigesterRates$GasStore", "needs", "[I", true)
  | 2 => ("DigesterRates$GasStore", "givenTo", "[J", true)
  | 3 => ("DigesterRates$GasStore", "order", "[I", true)
  | 4 => ("DigesterRates$GasStore", "users", "I", false)
  | 5 => ("DigesterRates$GasStore", "most", "I", false)
  | 6 => ("DigesterRates$GasStore", "held", "J", false)
  | 7 => ("DigesterRates$GasStore", "givenInAll", "J", false)
  | _ => ("DigesterRates$GasStore", "flared", "J", false)
def t_GasStore : Nat → FieldType := fun k => match k with
  | 0 => .array .int
  | 1 => .array .int
  | 2 => .array .long
  | 3 => .array .int
  | 4 => .int
  | 5 => .int
  | 6 => .long
  | 7 => .long
  | _ => .long
theorem n_GasStore : ∀ a, a < 9 → ∀ b, b < 9 → a ≠ b → (F_GasStore a).2.1 ≠ (F_GasStore b).2.1 := by decide +kernel
theorem t_GasStore_ok : ∀ k, k < 9 → parseFieldDescriptor (F_GasStore k).2.2.1 = some (t_GasStore k) := by decide +kernel
theorem iu_GasStore : ∀ w ∈ u_ws R_GasStore F_GasStore 9, w ∈ wg := by
  intro w hw
  obtain ⟨k, hk, rfl⟩ := List.mem_map.mp hw
  have hk := List.mem_range.mp hk
  match k, hk with
    | 0, hk => exact wg_in 117 (by decide +kernel) (by decide +kernel)
    | 1, hk => exact wg_in 119 (by decide +kernel) (by decide +kernel)
    | 2, hk => exact wg_in 121 (by decide +kernel) (by decide +kernel)
    | 3, hk => exact wg_in 123 (by decide +kernel) (by decide +kernel)
    | 4, hk => exact wg_in 125 (by decide +kernel) (by decide +kernel)
    | 5, hk => exact wg_in 127 (by decide +kernel) (by decide +kernel)
    | 6, hk => exact wg_in 129 (by decide +kernel) (by decide +kernel)
    | 7, hk => exact wg_in 131 (by decide +kernel) (by decide +kernel)
    | 8, hk => exact wg_in 133 (by decide +kernel) (by decide +kernel)
    | k + 9, hk => omega
def R_AcidPeaks : String := "DigesterRates$AcidPeaks"
def F_AcidPeaks : u_T := fun k => match k with
  | 0 => ("DigesterRates$AcidPeaks", "peaks", "[J", false)
  | _ => ("DigesterRates$AcidPeaks", "count", "I", false)
def t_AcidPeaks : Nat → FieldType := fun k => match k with
  | 0 => .array .long
  | _ => .int
theorem n_AcidPeaks : ∀ a, a < 2 → ∀ b, b < 2 → a ≠ b → (F_AcidPeaks a).2.1 ≠ (F_AcidPeaks b).2.1 := by decide +kernel
theorem t_AcidPeaks_ok : ∀ k, k < 2 → parseFieldDescriptor (F_AcidPeaks k).2.2.1 = some (t_AcidPeaks k) := by decide +kernel
theorem iu_AcidPeaks : ∀ w ∈ u_ws R_AcidPeaks F_AcidPeaks 2, w ∈ wg := by
  intro w hw
  obtain ⟨k, hk, rfl⟩ := List.mem_map.mp hw
  have hk := List.mem_range.mp hk
  match k, hk with
    | 0, hk => exact wg_in 144 (by decide +kernel) (by decide +kernel)
    | 1, hk => exact wg_in 146 (by decide +kernel) (by decide +kernel)
    | k + 2, hk => omega
def R_Planner : String := "DigesterRates$Planner"
def F_Planner : u_T := fun k => match k with
  | 0 => ("DigesterRates$Planner", "grams", "[I", true)
  | 1 => ("DigesterRates$Planner", "cents", "[I", true)
  | 2 => ("DigesterRates$Planner", "gas", "[I", true)
  | 3 => ("DigesterRates$Planner", "times", "[I", true)
  | _ => ("DigesterRates$Planner", "found", "Z", false)
def t_Planner : Nat → FieldType := fun k => match k with
  | 0 => .array .int
  | 1 => .array .int
  | 2 => .array .int
  | 3 => .array .int
  | _ => .boolean
theorem n_Planner : ∀ a, a < 5 → ∀ b, b < 5 → a ≠ b → (F_Planner a).2.1 ≠ (F_Planner b).2.1 := by decide +kernel
theorem t_Planner_ok : ∀ k, k < 5 → parseFieldDescriptor (F_Planner k).2.2.1 = some (t_Planner k) := by decide +kernel
theorem iu_Planner : ∀ w ∈ u_ws R_Planner F_Planner 5, w ∈ wg := by
  intro w hw
  obtain ⟨k, hk, rfl⟩ := List.mem_map.mp hw
  have hk := List.mem_range.mp hk
  match k, hk with
    | 0, hk => exact wg_in 163 (by decide +kernel) (by decide +kernel)
    | 1, hk => exact wg_in 165 (by decide +kernel) (by decide +kernel)
    | 2, hk => exact wg_in 167 (by decide +kernel) (by decide +kernel)
    | 3, hk => exact wg_in 169 (by decide +kernel) (by decide +kernel)
    | 4, hk => exact wg_in 171 (by decide +kernel) (by decide +kernel)
    | k + 5, hk => omega
def R_Mo : String := "DigesterRatesModel"
def F_Mo : u_T := fun k => match k with
  | 0 => ("DigesterRatesModel", "shares", "[I", true)
  | 1 => ("DigesterRatesModel", "parts", "[J", true)
  | 2 => ("DigesterRatesModel", "feeds", "I", false)
  | 3 => ("DigesterRatesModel", "feedMinutes", "[I", true)
  | 4 => ("DigesterRatesModel", "feedKinds", "[I", true)
  | 5 => ("DigesterRatesModel", "feedGrams", "[I", true)
  | 6 => ("DigesterRatesModel", "rates", "[I", true)
  | 7 => ("DigesterRatesModel", "bound", "J", false)
  | 8 => ("DigesterRatesModel", "room", "J", false)
  | 9 => ("DigesterRatesModel", "users", "I", false)
  | 10 => ("DigesterRatesModel", "ranks", "[I", true)
  | 11 => ("DigesterRatesModel", "wants", "[I", true)
  | 12 => ("DigesterRatesModel", "given", "[J", true)
  | 13 => ("DigesterRatesModel", "next", "I", false)
  | 14 => ("DigesterRatesModel", "acids", "[J", true)
  | 15 => ("DigesterRatesModel", "cameIn", "J", false)
  | 16 => ("DigesterRatesModel", "gas", "J", false)
  | 17 => ("DigesterRatesModel", "givenAll", "J", false)
  | 18 => ("DigesterRatesModel", "flared", "J", false)
  | 19 => ("DigesterRatesModel", "store", "J", false)
  | 20 => ("DigesterRatesModel", "hasLoad", "[Z", true)
  | 21 => ("DigesterRatesModel", "loadGrams", "[I", true)
  | 22 => ("DigesterRatesModel", "loadCents", "[I", true)
  | 23 => ("DigesterRatesModel", "loadGas", "[I", true)
  | 24 => ("DigesterRatesModel", "hasPlan", "Z", false)
  | _ => ("DigesterRatesModel", "plan", "I", false)
def t_Mo : Nat → FieldType := fun k => match k with
  | 0 => .array .int
  | 1 => .array .long
  | 2 => .int
  | 3 => .array .int
  | 4 => .array .int
  | 5 => .array .int
  | 6 => .array .int
  | 7 => .long
  | 8 => .long
  | 9 => .int
  | 10 => .array .int
  | 11 => .array .int
  | 12 => .array .long
  | 13 => .int
  | 14 => .array .long
  | 15 => .long
  | 16 => .long
  | 17 => .long
  | 18 => .long
  | 19 => .long
  | 20 => .array .boolean
  | 21 => .array .int
  | 22 => .array .int
  | 23 => .array .int
  | 24 => .boolean
  | _ => .int
theorem n_Mo : ∀ a, a < 26 → ∀ b, b < 26 → a ≠ b → (F_Mo a).2.1 ≠ (F_Mo b).2.1 := by decide +kernel
theorem t_Mo_ok : ∀ k, k < 26 → parseFieldDescriptor (F_Mo k).2.2.1 = some (t_Mo k) := by decide +kernel
theorem iu_Mo : ∀ w ∈ u_ws R_Mo F_Mo 26, w ∈ wg := by
  intro w hw
  obtain ⟨k, hk, rfl⟩ := List.mem_map.mp hw
  have hk := List.mem_range.mp hk
  match k, hk with
    | 0, hk => exact wg_in 463 (by decide +kernel) (by decide +kernel)
    | 1, hk => exact wg_in 465 (by decide +kernel) (by decide +kernel)
    | 2, hk => exact wg_in 467 (by decide +kernel) (by decide +kernel)
    | 3, hk => exact wg_in 469 (by decide +kernel) (by decide +kernel)
    | 4, hk => exact wg_in 471 (by decide +kernel) (by decide +kernel)
    | 5, hk => exact wg_in 473 (by decide +kernel) (by decide +kernel)
    | 6, hk => exact wg_in 475 (by decide +kernel) (by decide +kernel)
    | 7, hk => exact wg_in 477 (by decide +kernel) (by decide +kernel)
    | 8, hk => exact wg_in 479 (by decide +kernel) (by decide +kernel)
    | 9, hk => exact wg_in 481 (by decide +kernel) (by decide +kernel)
    | 10, hk => exact wg_in 483 (by decide +kernel) (by decide +kernel)
    | 11, hk => exact wg_in 485 (by decide +kernel) (by decide +kernel)
    | 12, hk => exact wg_in 487 (by decide +kernel) (by decide +kernel)
    | 13, hk => exact wg_in 489 (by decide +kernel) (by decide +kernel)
    | 14, hk => exact wg_in 491 (by decide +kernel) (by decide +kernel)
    | 15, hk => exact wg_in 493 (by decide +kernel) (by decide +kernel)
    | 16, hk => exact wg_in 495 (by decide +kernel) (by decide +kernel)
    | 17, hk => exact wg_in 497 (by decide +kernel) (by decide +kernel)
    | 18, hk => exact wg_in 499 (by decide +kernel) (by decide +kernel)
    | 19, hk => exact wg_in 501 (by decide +kernel) (by decide +kernel)
    | 20, hk => exact wg_in 503 (by decide +kernel) (by decide +kernel)
    | 21, hk => exact wg_in 505 (by decide +kernel) (by decide +kernel)
    | 22, hk => exact wg_in 507 (by decide +kernel) (by decide +kernel)
    | 23, hk => exact wg_in 509 (by decide +kernel) (by decide +kernel)
    | 24, hk => exact wg_in 511 (by decide +kernel) (by decide +kernel)
    | 25, hk => exact wg_in 513 (by decide +kernel) (by decide +kernel)
    | k + 26, hk => omega
abbrev vwCl : List vw_C := [(R_DR, F_DR, 7), (R_Shares, F_Shares, 1), (R_Told, F_Told, 4), (R_Tank, F_Tank, 5), (R_GasStore, F_GasStore, 9), (R_AcidPeaks, F_AcidPeaks, 2), (R_Planner, F_Planner, 5), (R_Mo, F_Mo, 26)]
abbrev b_DR_init : ByteArray := prog_1_method_1_code
def y_DR_init : MethodName := ⟨R_DR, "<init>", "()V"⟩
abbrev w_DR_init : List Cond := .code y_DR_init b_DR_init 1 none :: wg
abbrev b_DR_kind : ByteArray := prog_1_method_2_code
def y_DR_kind : MethodName := ⟨R_DR, "kind", "(III)Z"⟩
abbrev w_DR_kind : List Cond := .code y_DR_kind b_DR_kind 4 (some .boolean) :: wg
abbrev b_DR_start : ByteArray := prog_1_method_3_code
def y_DR_start : MethodName := ⟨R_DR, "start", "(II)Z"⟩
abbrev w_DR_start : List Cond := .code y_DR_start b_DR_start 3 (some .boolean) :: wg
abbrev b_DR_feed : ByteArray := prog_1_method_4_code
def y_DR_feed : MethodName := ⟨R_DR, "feed", "(III)Z"⟩
abbrev w_DR_feed : List Cond := .code y_DR_feed b_DR_feed 4 (some .boolean) :: wg
abbrev b_DR_rate : ByteArray := prog_1_method_5_code
def y_DR_rate : MethodName := ⟨R_DR, "rate", "(II)Z"⟩
abbrev w_DR_rate : List Cond := .code y_DR_rate b_DR_rate 3 (some .boolean) :: wg
abbrev b_DR_bound : ByteArray := prog_1_method_6_code
def y_DR_bound : MethodName := ⟨R_DR, "bound", "(I)Z"⟩
abbrev w_DR_bound : List Cond := .code y_DR_bound b_DR_bound 2 (some .boolean) :: wg
abbrev b_DR_room : ByteArray := prog_1_method_7_code
def y_DR_room : MethodName := ⟨R_DR, "room", "(I)Z"⟩
abbrev w_DR_room : List Cond := .code y_DR_room b_DR_room 2 (some .boolean) :: wg
abbrev b_DR_rank : ByteArray := prog_1_method_8_code
def y_DR_rank : MethodName := ⟨R_DR, "rank", "(II)I"⟩
abbrev w_DR_rank : List Cond := .code y_DR_rank b_DR_rank 3 (some .int) :: wg
abbrev b_DR_run : ByteArray := prog_1_method_9_code
def y_DR_run : MethodName := ⟨R_DR, "run", "(I)I"⟩
abbrev w_DR_run : List Cond := .code y_DR_run b_DR_run 3 (some .int) :: wg
abbrev b_DR_at : ByteArray := prog_1_method_10_code
def y_DR_at : MethodName := ⟨R_DR, "at", "(I)J"⟩
abbrev w_DR_at : List Cond := .code y_DR_at b_DR_at 2 (some .long) :: wg
abbrev b_DR_given : ByteArray := prog_1_method_11_code
def y_DR_given : MethodName := ⟨R_DR, "given", "(I)J"⟩
abbrev w_DR_given : List Cond := .code y_DR_given b_DR_given 2 (some .long) :: wg
abbrev b_DR_gone : ByteArray := prog_1_method_12_code
def y_DR_gone : MethodName := ⟨R_DR, "gone", "(I)J"⟩
abbrev w_DR_gone : List Cond := .code y_DR_gone b_DR_gone 2 (some .long) :: wg
abbrev b_DR_balance : ByteArray := prog_1_method_13_code
def y_DR_balance : MethodName := ⟨R_DR, "balance", "(I)J"⟩
abbrev w_DR_balance : List Cond := .code y_DR_balance b_DR_balance 2 (some .long) :: wg
abbrev b_DR_acid : ByteArray := prog_1_method_14_code
def y_DR_acid : MethodName := ⟨R_DR, "acid", "()I"⟩
abbrev w_DR_acid : List Cond := .code y_DR_acid b_DR_acid 1 (some .int) :: wg
abbrev b_DR_sour : ByteArray := prog_1_method_15_code
def y_DR_sour : MethodName := ⟨R_DR, "sour", "(J)I"⟩
abbrev w_DR_sour : List Cond := .code y_DR_sour b_DR_sour 3 (some .int) :: wg
abbrev b_DR_load : ByteArray := prog_1_method_16_code
def y_DR_load : MethodName := ⟨R_DR, "load", "(IIII)Z"⟩
abbrev w_DR_load : List Cond := .code y_DR_load b_DR_load 5 (some .boolean) :: wg
abbrev b_DR_plan : ByteArray := prog_1_method_17_code
def y_DR_plan : MethodName := ⟨R_DR, "plan", "(I)I"⟩
abbrev w_DR_plan : List Cond := .code y_DR_plan b_DR_plan 2 (some .int) :: wg
abbrev b_DR_planned : ByteArray := prog_1_method_18_code
def y_DR_planned : MethodName := ⟨R_DR, "planned", "(I)I"⟩
abbrev w_DR_planned : List Cond := .code y_DR_planned b_DR_planned 2 (some .int) :: wg
abbrev b_DR_serve : ByteArray := prog_1_method_19_code
def y_DR_serve : MethodName := ⟨R_DR, "serve", "()I"⟩
abbrev w_DR_serve : List Cond := .code y_DR_serve b_DR_serve 5 (some .int) :: wg
abbrev b_DR_passMinute : ByteArray := prog_1_method_20_code
def y_DR_passMinute : MethodName := ⟨R_DR, "passMinute", "()V"⟩
abbrev w_DR_passMinute : List Cond := .code y_DR_passMinute b_DR_passMinute 1 none :: wg
abbrev b_DR_takeInTold : ByteArray := prog_1_method_21_code
def y_DR_takeInTold : MethodName := ⟨R_DR, "takeInTold", "()V"⟩
abbrev w_DR_takeInTold : List Cond := .code y_DR_takeInTold b_DR_takeInTold 2 none :: wg
abbrev b_DR_takeIn : ByteArray := prog_1_method_22_code
def y_DR_takeIn : MethodName := ⟨R_DR, "takeIn", "(IJ)V"⟩
abbrev w_DR_takeIn : List Cond := .code y_DR_takeIn b_DR_takeIn 9 none :: wg
abbrev b_DR_within : ByteArray := prog_1_method_23_code
def y_DR_within : MethodName := ⟨R_DR, "within", "(III)Z"⟩
abbrev w_DR_within : List Cond := .code y_DR_within b_DR_within 3 (some .boolean) :: wg
abbrev b_DR_isKind : ByteArray := prog_1_method_24_code
def y_DR_isKind : MethodName := ⟨R_DR, "isKind", "(I)Z"⟩
abbrev w_DR_isKind : List Cond := .code y_DR_isKind b_DR_isKind 1 (some .boolean) :: wg
abbrev b_DR_isPart : ByteArray := prog_1_method_25_code
def y_DR_isPart : MethodName := ⟨R_DR, "isPart", "(I)Z"⟩
abbrev w_DR_isPart : List Cond := .code y_DR_isPart b_DR_isPart 1 (some .boolean) :: wg
abbrev b_DR_thousandthsOf : ByteArray := prog_1_method_26_code
def y_DR_thousandthsOf : MethodName := ⟨R_DR, "thousandthsOf", "(JJ)J"⟩
abbrev w_DR_thousandthsOf : List Cond := .code y_DR_thousandthsOf b_DR_thousandthsOf 4 (some .long) :: wg
abbrev b_DR_millionthsOf : ByteArray := prog_1_method_27_code
def y_DR_millionthsOf : MethodName := ⟨R_DR, "millionthsOf", "(JJ)J"⟩
abbrev w_DR_millionthsOf : List Cond := .code y_DR_millionthsOf b_DR_millionthsOf 4 (some .long) :: wg
abbrev b_Mo_init : ByteArray := prog_9_method_1_code
def y_Mo_init : MethodName := ⟨R_Mo, "<init>", "()V"⟩
abbrev w_Mo_init : List Cond := .code y_Mo_init b_Mo_init 1 none :: wg
abbrev b_Mo_isIn : ByteArray := prog_9_method_3_code
def y_Mo_isIn : MethodName := ⟨R_Mo, "isIn", "(JJJ)Z"⟩
abbrev w_Mo_isIn : List Cond := .code y_Mo_isIn b_Mo_isIn 6 (some .boolean) :: wg
abbrev b_Mo_isKind : ByteArray := prog_9_method_4_code
def y_Mo_isKind : MethodName := ⟨R_Mo, "isKind", "(I)Z"⟩
abbrev w_Mo_isKind : List Cond := .code y_Mo_isKind b_Mo_isKind 1 (some .boolean) :: wg
abbrev b_Mo_kind : ByteArray := prog_9_method_5_code
def y_Mo_kind : MethodName := ⟨R_Mo, "kind", "(III)Z"⟩
abbrev w_Mo_kind : List Cond := .code y_Mo_kind b_Mo_kind 5 (some .boolean) :: wg
abbrev b_Mo_start : ByteArray := prog_9_method_6_code
def y_Mo_start : MethodName := ⟨R_Mo, "start", "(II)Z"⟩
abbrev w_Mo_start : List Cond := .code y_Mo_start b_Mo_start 3 (some .boolean) :: wg
abbrev b_Mo_feed : ByteArray := prog_9_method_7_code
def y_Mo_feed : MethodName := ⟨R_Mo, "feed", "(III)Z"⟩
abbrev w_Mo_feed : List Cond := .code y_Mo_feed b_Mo_feed 4 (some .boolean) :: wg
abbrev b_Mo_rate : ByteArray := prog_9_method_8_code
def y_Mo_rate : MethodName := ⟨R_Mo, "rate", "(II)Z"⟩
abbrev w_Mo_rate : List Cond := .code y_Mo_rate b_Mo_rate 3 (some .boolean) :: wg
abbrev b_Mo_bound : ByteArray := prog_9_method_9_code
def y_Mo_bound : MethodName := ⟨R_Mo, "bound", "(I)Z"⟩
abbrev w_Mo_bound : List Cond := .code y_Mo_bound b_Mo_bound 2 (some .boolean) :: wg
abbrev b_Mo_room : ByteArray := prog_9_method_10_code
def y_Mo_room : MethodName := ⟨R_Mo, "room", "(I)Z"⟩
abbrev w_Mo_room : List Cond := .code y_Mo_room b_Mo_room 2 (some .boolean) :: wg
abbrev b_Mo_rank : ByteArray := prog_9_method_11_code
def y_Mo_rank : MethodName := ⟨R_Mo, "rank", "(II)I"⟩
abbrev w_Mo_rank : List Cond := .code y_Mo_rank b_Mo_rank 3 (some .int) :: wg
abbrev b_Mo_comes : ByteArray := prog_9_method_12_code
def y_Mo_comes : MethodName := ⟨R_Mo, "comes", "(IJ)V"⟩
abbrev w_Mo_comes : List Cond := .code y_Mo_comes b_Mo_comes 9 none :: wg
abbrev b_Mo_steps : ByteArray := prog_9_method_13_code
def y_Mo_steps : MethodName := ⟨R_Mo, "steps", "(JI)J"⟩
abbrev w_Mo_steps : List Cond := .code y_Mo_steps b_Mo_steps 4 (some .long) :: wg
abbrev b_Mo_minute : ByteArray := prog_9_method_14_code
def y_Mo_minute : MethodName := ⟨R_Mo, "minute", "()V"⟩
abbrev w_Mo_minute : List Cond := .code y_Mo_minute b_Mo_minute 15 none :: wg
abbrev b_Mo_run : ByteArray := prog_9_method_15_code
def y_Mo_run : MethodName := ⟨R_Mo, "run", "(I)I"⟩
abbrev w_Mo_run : List Cond := .code y_Mo_run b_Mo_run 3 (some .int) :: wg
abbrev b_Mo_at : ByteArray := prog_9_method_16_code
def y_Mo_at : MethodName := ⟨R_Mo, "at", "(I)J"⟩
abbrev w_Mo_at : List Cond := .code y_Mo_at b_Mo_at 2 (some .long) :: wg
abbrev b_Mo_given : ByteArray := prog_9_method_17_code
def y_Mo_given : MethodName := ⟨R_Mo, "given", "(I)J"⟩
abbrev w_Mo_given : List Cond := .code y_Mo_given b_Mo_given 2 (some .long) :: wg
abbrev b_Mo_gone : ByteArray := prog_9_method_18_code
def y_Mo_gone : MethodName := ⟨R_Mo, "gone", "(I)J"⟩
abbrev w_Mo_gone : List Cond := .code y_Mo_gone b_Mo_gone 2 (some .long) :: wg
abbrev b_Mo_balance : ByteArray := prog_9_method_19_code
def y_Mo_balance : MethodName := ⟨R_Mo, "balance", "(I)J"⟩
abbrev w_Mo_balance : List Cond := .code y_Mo_balance b_Mo_balance 2 (some .long) :: wg
abbrev b_Mo_acid : ByteArray := prog_9_method_20_code
def y_Mo_acid : MethodName := ⟨R_Mo, "acid", "()I"⟩
abbrev w_Mo_acid : List Cond := .code y_Mo_acid b_Mo_acid 8 (some .int) :: wg
abbrev b_Mo_sour : ByteArray := prog_9_method_21_code
def y_Mo_sour : MethodName := ⟨R_Mo, "sour", "(J)I"⟩
abbrev w_Mo_sour : List Cond := .code y_Mo_sour b_Mo_sour 4 (some .int) :: wg
abbrev b_Mo_load : ByteArray := prog_9_method_22_code
def y_Mo_load : MethodName := ⟨R_Mo, "load", "(IIII)Z"⟩
abbrev w_Mo_load : List Cond := .code y_Mo_load b_Mo_load 5 (some .boolean) :: wg
abbrev b_Mo_timesOf : ByteArray := prog_9_method_23_code
def y_Mo_timesOf : MethodName := ⟨R_Mo, "timesOf", "(II)I"⟩
abbrev w_Mo_timesOf : List Cond := .code y_Mo_timesOf b_Mo_timesOf 2 (some .int) :: wg
abbrev b_Mo_plan : ByteArray := prog_9_method_24_code
def y_Mo_plan : MethodName := ⟨R_Mo, "plan", "(I)I"⟩
abbrev w_Mo_plan : List Cond := .code y_Mo_plan b_Mo_plan 10 (some .int) :: wg
abbrev b_Mo_planned : ByteArray := prog_9_method_25_code
def y_Mo_planned : MethodName := ⟨R_Mo, "planned", "(I)I"⟩
abbrev w_Mo_planned : List Cond := .code y_Mo_planned b_Mo_planned 2 (some .int) :: wg
abbrev b_Mo_serve : ByteArray := prog_9_method_26_code
def y_Mo_serve : MethodName := ⟨R_Mo, "serve", "()I"⟩
abbrev w_Mo_serve : List Cond := .code y_Mo_serve b_Mo_serve 5 (some .int) :: wg
abbrev b_AcidPeaks_init : ByteArray := prog_2_method_1_code
def y_AcidPeaks_init : MethodName := ⟨R_AcidPeaks, "<init>", "()V"⟩
abbrev w_AcidPeaks_init : List Cond := .code y_AcidPeaks_init b_AcidPeaks_init 1 none :: wg
abbrev b_AcidPeaks_makeRoomFor : ByteArray := prog_2_method_2_code
def y_AcidPeaks_makeRoomFor : MethodName := ⟨R_AcidPeaks, "makeRoomFor", "(I)V"⟩
abbrev w_AcidPeaks_makeRoomFor : List Cond := .code y_AcidPeaks_makeRoomFor b_AcidPeaks_makeRoomFor 3 none :: wg
abbrev b_AcidPeaks_add : ByteArray := prog_2_method_3_code
def y_AcidPeaks_add : MethodName := ⟨R_AcidPeaks, "add", "(J)V"⟩
abbrev w_AcidPeaks_add : List Cond := .code y_AcidPeaks_add b_AcidPeaks_add 3 none :: wg
abbrev b_AcidPeaks_firstAbove : ByteArray := prog_2_method_4_code
def y_AcidPeaks_firstAbove : MethodName := ⟨R_AcidPeaks, "firstAbove", "(J)I"⟩
abbrev w_AcidPeaks_firstAbove : List Cond := .code y_AcidPeaks_firstAbove b_AcidPeaks_firstAbove 6 (some .int) :: wg
abbrev b_GasStore_init : ByteArray := prog_3_method_1_code
def y_GasStore_init : MethodName := ⟨R_GasStore, "<init>", "()V"⟩
abbrev w_GasStore_init : List Cond := .code y_GasStore_init b_GasStore_init 1 none :: wg
abbrev b_GasStore_addUser : ByteArray := prog_3_method_2_code
def y_GasStore_addUser : MethodName := ⟨R_GasStore, "addUser", "(II)I"⟩
abbrev w_GasStore_addUser : List Cond := .code y_GasStore_addUser b_GasStore_addUser 5 (some .int) :: wg
abbrev b_GasStore_passGas : ByteArray := prog_3_method_3_code
def y_GasStore_passGas : MethodName := ⟨R_GasStore, "passGas", "(J)V"⟩
abbrev w_GasStore_passGas : List Cond := .code y_GasStore_passGas b_GasStore_passGas 5 none :: wg
abbrev b_GasStore_giveTo : ByteArray := prog_3_method_4_code
def y_GasStore_giveTo : MethodName := ⟨R_GasStore, "giveTo", "(I)V"⟩
abbrev w_GasStore_giveTo : List Cond := .code y_GasStore_giveTo b_GasStore_giveTo 4 none :: wg
abbrev b_Planner_init : ByteArray := prog_4_method_1_code
def y_Planner_init : MethodName := ⟨R_Planner, "<init>", "()V"⟩
abbrev w_Planner_init : List Cond := .code y_Planner_init b_Planner_init 1 none :: wg
abbrev b_Planner_setLoad : ByteArray := prog_4_method_2_code
def y_Planner_setLoad : MethodName := ⟨R_Planner, "setLoad", "(IIII)V"⟩
abbrev w_Planner_setLoad : List Cond := .code y_Planner_setLoad b_Planner_setLoad 5 none :: wg
abbrev b_Planner_loadsInAll : ByteArray := prog_4_method_3_code
def y_Planner_loadsInAll : MethodName := ⟨R_Planner, "loadsInAll", "()I"⟩
abbrev w_Planner_loadsInAll : List Cond := .code y_Planner_loadsInAll b_Planner_loadsInAll 3 (some .int) :: wg
abbrev b_Planner_find : ByteArray := prog_4_method_4_code
def y_Planner_find : MethodName := ⟨R_Planner, "find", "(I)I"⟩
abbrev w_Planner_find : List Cond := .code y_Planner_find b_Planner_find 8 (some .int) :: wg
abbrev b_Planner_mostTimes : ByteArray := prog_4_method_5_code
def y_Planner_mostTimes : MethodName := ⟨R_Planner, "mostTimes", "(I)I"⟩
abbrev w_Planner_mostTimes : List Cond := .code y_Planner_mostTimes b_Planner_mostTimes 2 (some .int) :: wg
abbrev b_Planner_sum : ByteArray := prog_4_method_6_code
def y_Planner_sum : MethodName := ⟨R_Planner, "sum", "([IIII)I"⟩
abbrev w_Planner_sum : List Cond := .code y_Planner_sum b_Planner_sum 4 (some .int) :: wg
abbrev b_Planner_fewestOfLast : ByteArray := prog_4_method_7_code
def y_Planner_fewestOfLast : MethodName := ⟨R_Planner, "fewestOfLast", "(I)I"⟩
abbrev w_Planner_fewestOfLast : List Cond := .code y_Planner_fewestOfLast b_Planner_fewestOfLast 4 (some .int) :: wg
abbrev b_Planner_keep : ByteArray := prog_4_method_8_code
def y_Planner_keep : MethodName := ⟨R_Planner, "keep", "(IIII)V"⟩
abbrev w_Planner_keep : List Cond := .code y_Planner_keep b_Planner_keep 5 none :: wg
abbrev b_Shares_init : ByteArray := prog_5_method_1_code
def y_Shares_init : MethodName := ⟨R_Shares, "<init>", "()V"⟩
abbrev w_Shares_init : List Cond := .code y_Shares_init b_Shares_init 1 none :: wg
abbrev b_Shares_of : ByteArray := prog_5_method_2_code
def y_Shares_of : MethodName := ⟨R_Shares, "of", "(II)I"⟩
abbrev w_Shares_of : List Cond := .code y_Shares_of b_Shares_of 3 (some .int) :: wg
abbrev b_Shares_change : ByteArray := prog_5_method_3_code
def y_Shares_change : MethodName := ⟨R_Shares, "change", "(III)Z"⟩
abbrev w_Shares_change : List Cond := .code y_Shares_change b_Shares_change 6 (some .boolean) :: wg
abbrev b_Tank_init : ByteArray := prog_6_method_1_code
def y_Tank_init : MethodName := ⟨R_Tank, "<init>", "()V"⟩
abbrev w_Tank_init : List Cond := .code y_Tank_init b_Tank_init 1 none :: wg
abbrev b_Tank_bring : ByteArray := prog_6_method_2_code
def y_Tank_bring : MethodName := ⟨R_Tank, "bring", "(IJ)V"⟩
abbrev w_Tank_bring : List Cond := .code y_Tank_bring b_Tank_bring 4 none :: wg
abbrev b_Tank_breakDown : ByteArray := prog_6_method_3_code
def y_Tank_breakDown : MethodName := ⟨R_Tank, "breakDown", "()J"⟩
abbrev w_Tank_breakDown : List Cond := .code y_Tank_breakDown b_Tank_breakDown 9 (some .long) :: wg
abbrev b_Tank_speed : ByteArray := prog_6_method_4_code
def y_Tank_speed : MethodName := ⟨R_Tank, "speed", "()J"⟩
abbrev w_Tank_speed : List Cond := .code y_Tank_speed b_Tank_speed 1 (some .long) :: wg
abbrev b_Tank_broken : ByteArray := prog_6_method_5_code
def y_Tank_broken : MethodName := ⟨R_Tank, "broken", "(IJ)J"⟩
abbrev w_Tank_broken : List Cond := .code y_Tank_broken b_Tank_broken 4 (some .long) :: wg
abbrev b_Tank_allParts : ByteArray := prog_6_method_6_code
def y_Tank_allParts : MethodName := ⟨R_Tank, "allParts", "()J"⟩
abbrev w_Tank_allParts : List Cond := .code y_Tank_allParts b_Tank_allParts 4 (some .long) :: wg
abbrev b_Tank_sourness : ByteArray := prog_6_method_7_code
def y_Tank_sourness : MethodName := ⟨R_Tank, "sourness", "()I"⟩
abbrev w_Tank_sourness : List Cond := .code y_Tank_sourness b_Tank_sourness 3 (some .int) :: wg
abbrev b_Tank_isSour : ByteArray := prog_6_method_8_code
def y_Tank_isSour : MethodName := ⟨R_Tank, "isSour", "(J)Z"⟩
abbrev w_Tank_isSour : List Cond := .code y_Tank_isSour b_Tank_isSour 3 (some .boolean) :: wg
abbrev b_Told_init : ByteArray := prog_7_method_1_code
def y_Told_init : MethodName := ⟨R_Told, "<init>", "()V"⟩
abbrev w_Told_init : List Cond := .code y_Told_init b_Told_init 1 none :: wg
abbrev b_Told_hasRoomFor : ByteArray := prog_7_method_2_code
def y_Told_hasRoomFor : MethodName := ⟨R_Told, "hasRoomFor", "(I)Z"⟩
abbrev w_Told_hasRoomFor : List Cond := .code y_Told_hasRoomFor b_Told_hasRoomFor 2 (some .boolean) :: wg
abbrev b_Told_add : ByteArray := prog_7_method_3_code
def y_Told_add : MethodName := ⟨R_Told, "add", "(III)V"⟩
abbrev w_Told_add : List Cond := .code y_Told_add b_Told_add 4 none :: wg
abbrev b_Arrays_copyOf : ByteArray := prog_13_method_124_code
def y_Arrays_copyOf : MethodName := ⟨R_Arrays, "copyOf", "([JI)[J"⟩
abbrev w_Arrays_copyOf : List Cond := .code y_Arrays_copyOf b_Arrays_copyOf 3 (some (.array .long)) :: wg
theorem kw_0 : (.selects R_DR y_DR_passMinute y_DR_passMinute : Cond) ∈ wg := wg_in 0 (by decide +kernel) (by decide +kernel)
theorem kw_1 : (.selects R_DR y_DR_takeInTold y_DR_takeInTold : Cond) ∈ wg := wg_in 1 (by decide +kernel) (by decide +kernel)
theorem kw_2 : (.selects R_DR y_DR_takeIn y_DR_takeIn : Cond) ∈ wg := wg_in 2 (by decide +kernel) (by decide +kernel)
theorem kw_3 : (.selects R_Tank y_Tank_speed y_Tank_speed : Cond) ∈ wg := wg_in 3 (by decide +kernel) (by decide +kernel)
theorem kw_4 : (.selects R_Tank y_Tank_broken y_Tank_broken : Cond) ∈ wg := wg_in 4 (by decide +kernel) (by decide +kernel)
theorem kw_5 : (.selects R_GasStore y_GasStore_giveTo y_GasStore_giveTo : Cond) ∈ wg := wg_in 5 (by decide +kernel) (by decide +kernel)
theorem kw_6 : (.selects R_Tank y_Tank_isSour y_Tank_isSour : Cond) ∈ wg := wg_in 6 (by decide +kernel) (by decide +kernel)
theorem kw_7 : (.selects R_Planner y_Planner_mostTimes y_Planner_mostTimes : Cond) ∈ wg := wg_in 7 (by decide +kernel) (by decide +kernel)
theorem kw_8 : (.selects R_Planner y_Planner_fewestOfLast y_Planner_fewestOfLast : Cond) ∈ wg := wg_in 8 (by decide +kernel) (by decide +kernel)
theorem kw_9 : (.selects R_Planner y_Planner_keep y_Planner_keep : Cond) ∈ wg := wg_in 9 (by decide +kernel) (by decide +kernel)
theorem kw_10 : (.selects R_Mo y_Mo_minute y_Mo_minute : Cond) ∈ wg := wg_in 10 (by decide +kernel) (by decide +kernel)
theorem kw_11 : (.selects R_Mo y_Mo_comes y_Mo_comes : Cond) ∈ wg := wg_in 11 (by decide +kernel) (by decide +kernel)
theorem kw_12 : (.selects R_Mo y_Mo_steps y_Mo_steps : Cond) ∈ wg := wg_in 12 (by decide +kernel) (by decide +kernel)
theorem kw_13 : (.initialized R_Law : Cond) ∈ wg := wg_in 13 (by decide +kernel) (by decide +kernel)
theorem kw_14 : (.initialized R_DR : Cond) ∈ wg := wg_in 14 (by decide +kernel) (by decide +kernel)
theorem kw_15 : (.initialized R_Shares : Cond) ∈ wg := wg_in 15 (by decide +kernel) (by decide +kernel)
theorem kw_16 : (.initialized R_Told : Cond) ∈ wg := wg_in 16 (by decide +kernel) (by decide +kernel)
theorem kw_17 : (.initialized R_Tank : Cond) ∈ wg := wg_in 17 (by decide +kernel) (by decide +kernel)
theorem kw_18 : (.initialized R_GasStore : Cond) ∈ wg := wg_in 18 (by decide +kernel) (by decide +kernel)
theorem kw_19 : (.initialized R_AcidPeaks : Cond) ∈ wg := wg_in 19 (by decide +kernel) (by decide +kernel)
theorem kw_20 : (.initialized R_Planner : Cond) ∈ wg := wg_in 20 (by decide +kernel) (by decide +kernel)
theorem kw_21 : (.initialized R_Mo : Cond) ∈ wg := wg_in 21 (by decide +kernel) (by decide +kernel)
theorem kw_22 : (.initialized "java/lang/Math" : Cond) ∈ wg := wg_in 22 (by decide +kernel) (by decide +kernel)
theorem kw_23 : (.initialized R_Arrays : Cond) ∈ wg := wg_in 23 (by decide +kernel) (by decide +kernel)
theorem kw_24 : (.initialized "java/lang/System" : Cond) ∈ wg := wg_in 24 (by decide +kernel) (by decide +kernel)
theorem kw_25 : (.classLink R_Law 7 R_DR : Cond) ∈ wg := wg_in 25 (by decide +kernel) (by decide +kernel)
theorem kw_26 : (.instantiable R_DR 7 : Cond) ∈ wg := wg_in 26 (by decide +kernel) (by decide +kernel)
theorem kw_27 : (.methodLink R_Law 9 y_DR_init : Cond) ∈ wg := wg_in 27 (by decide +kernel) (by decide +kernel)
theorem kw_28 : (.instanceMethod y_DR_init : Cond) ∈ wg := wg_in 28 (by decide +kernel) (by decide +kernel)
theorem kw_29 : (.code y_DR_init b_DR_init 1 none : Cond) ∈ wg := wg_in 29 (by decide +kernel) (by decide +kernel)
theorem kw_30 : (.methodLink R_DR 1 objectInit : Cond) ∈ wg := wg_in 30 (by decide +kernel) (by decide +kernel)
theorem kw_31 : (.instanceMethod objectInit : Cond) ∈ wg := wg_in 31 (by decide +kernel) (by decide +kernel)
theorem kw_32 : (.code objectInit ⟨#[0xb1]⟩ 1 none : Cond) ∈ wg := wg_in 32 (by decide +kernel) (by decide +kernel)
theorem kw_33 : (.classLink R_DR 7 R_Shares : Cond) ∈ wg := wg_in 33 (by decide +kernel) (by decide +kernel)
theorem kw_34 : (.instantiable R_Shares 1 : Cond) ∈ wg := wg_in 34 (by decide +kernel) (by decide +kernel)
theorem kw_35 : (.instanceMethod y_Shares_init : Cond) ∈ wg := wg_in 36 (by decide +kernel) (by decide +kernel)
theorem kw_36 : (.code y_Shares_init b_Shares_init 1 none : Cond) ∈ wg := wg_in 37 (by decide +kernel) (by decide +kernel)
theorem kw_37 : (.methodLink R_Shares 3 objectInit : Cond) ∈ wg := wg_in 38 (by decide +kernel) (by decide +kernel)
theorem kw_38 : (.fieldLink R_Shares 9 "DigesterRates$Shares" "thousandths" "[I" : Cond) ∈ wg := wg_in 39 (by decide +kernel) (by decide +kernel)
theorem kw_39 : (.arrayClass .int : Cond) ∈ wg := wg_in 43 (by decide +kernel) (by decide +kernel)
theorem kw_40 : (.classLink R_DR 16 R_Told : Cond) ∈ wg := wg_in 44 (by decide +kernel) (by decide +kernel)
theorem kw_41 : (.instantiable R_Told 4 : Cond) ∈ wg := wg_in 45 (by decide +kernel) (by decide +kernel)
theorem kw_42 : (.instanceMethod y_Told_init : Cond) ∈ wg := wg_in 47 (by decide +kernel) (by decide +kernel)
theorem kw_43 : (.code y_Told_init b_Told_init 1 none : Cond) ∈ wg := wg_in 48 (by decide +kernel) (by decide +kernel)
theorem kw_44 : (.methodLink R_Told 3 objectInit : Cond) ∈ wg := wg_in 49 (by decide +kernel) (by decide +kernel)
theorem kw_45 : (.fieldLink R_Told 9 "DigesterRates$Told" "minutes" "[I" : Cond) ∈ wg := wg_in 50 (by decide +kernel) (by decide +kernel)
theorem kw_46 : (.fieldLink R_Told 15 "DigesterRates$Told" "kinds" "[I" : Cond) ∈ wg := wg_in 52 (by decide +kernel) (by decide +kernel)
theorem kw_47 : (.fieldLink R_Told 18 "DigesterRates$Told" "grams" "[I" : Cond) ∈ wg := wg_in 54 (by decide +kernel) (by decide +kernel)
theorem kw_48 : (.fieldLink R_Told 21 "DigesterRates$Told" "count" "I" : Cond) ∈ wg := wg_in 56 (by decide +kernel) (by decide +kernel)
theorem kw_49 : (.classLink R_DR 23 R_Tank : Cond) ∈ wg := wg_in 67 (by decide +kernel) (by decide +kernel)
theorem kw_50 : (.instantiable R_Tank 5 : Cond) ∈ wg := wg_in 68 (by decide +kernel) (by decide +kernel)
theorem kw_51 : (.instanceMethod y_Tank_init : Cond) ∈ wg := wg_in 70 (by decide +kernel) (by decide +kernel)
theorem kw_52 : (.code y_Tank_init b_Tank_init 1 none : Cond) ∈ wg := wg_in 71 (by decide +kernel) (by decide +kernel)
theorem kw_53 : (.methodLink R_Tank 3 objectInit : Cond) ∈ wg := wg_in 72 (by decide +kernel) (by decide +kernel)
theorem kw_54 : (.constant R_Tank 19 (1000000000) : Cond) ∈ wg := wg_in 73 (by decide +kernel) (by decide +kernel)
theorem kw_55 : (.fieldLink R_Tank 9 "DigesterRates$Tank" "grams" "[J" : Cond) ∈ wg := wg_in 74 (by decide +kernel) (by decide +kernel)
theorem kw_56 : (.fieldLink R_Tank 15 "DigesterRates$Tank" "rates" "[I" : Cond) ∈ wg := wg_in 76 (by decide +kernel) (by decide +kernel)
theorem kw_57 : (.fieldLink R_Tank 20 "DigesterRates$Tank" "slowingBound" "I" : Cond) ∈ wg := wg_in 78 (by decide +kernel) (by decide +kernel)
theorem kw_58 : (.fieldLink R_Tank 24 "DigesterRates$Tank" "cameIn" "J" : Cond) ∈ wg := wg_in 80 (by decide +kernel) (by decide +kernel)
theorem kw_59 : (.fieldLink R_Tank 36 "DigesterRates$Tank" "gasMade" "J" : Cond) ∈ wg := wg_in 82 (by decide +kernel) (by decide +kernel)
theorem kw_60 : (.arrayClass .long : Cond) ∈ wg := wg_in 95 (by decide +kernel) (by decide +kernel)
theorem kw_61 : (.classLink R_DR 30 R_GasStore : Cond) ∈ wg := wg_in 96 (by decide +kernel) (by decide +kernel)
theorem kw_62 : (.instantiable R_GasStore 9 : Cond) ∈ wg := wg_in 97 (by decide +kernel) (by decide +kernel)
theorem kw_63 : (.instanceMethod y_GasStore_init : Cond) ∈ wg := wg_in 99 (by decide +kernel) (by decide +kernel)
theorem kw_64 : (.code y_GasStore_init b_GasStore_init 1 none : Cond) ∈ wg := wg_in 100 (by decide +kernel) (by decide +kernel)
theorem kw_65 : (.methodLink R_GasStore 3 objectInit : Cond) ∈ wg := wg_in 101 (by decide +kernel) (by decide +kernel)
theorem kw_66 : (.fieldLink R_GasStore 9 "DigesterRates$GasStore" "ranks" "[I" : Cond) ∈ wg := wg_in 102 (by decide +kernel) (by decide +kernel)
theorem kw_67 : (.fieldLink R_GasStore 15 "DigesterRates$GasStore" "needs" "[I" : Cond) ∈ wg := wg_in 103 (by decide +kernel) (by decide +kernel)
theorem kw_68 : (.fieldLink R_GasStore 18 "DigesterRates$GasStore" "givenTo" "[J" : Cond) ∈ wg := wg_in 104 (by decide +kernel) (by decide +kernel)
theorem kw_69 : (.fieldLink R_GasStore 22 "DigesterRates$GasStore" "order" "[I" : Cond) ∈ wg := wg_in 106 (by decide +kernel) (by decide +kernel)
theorem kw_70 : (.fieldLink R_GasStore 25 "DigesterRates$GasStore" "users" "I" : Cond) ∈ wg := wg_in 107 (by decide +kernel) (by decide +kernel)
theorem kw_71 : (.fieldLink R_GasStore 37 "DigesterRates$GasStore" "most" "I" : Cond) ∈ wg := wg_in 109 (by decide +kernel) (by decide +kernel)
theorem kw_72 : (.fieldLink R_GasStore 29 "DigesterRates$GasStore" "held" "J" : Cond) ∈ wg := wg_in 111 (by decide +kernel) (by decide +kernel)
theorem kw_73 : (.fieldLink R_GasStore 52 "DigesterRates$GasStore" "givenInAll" "J" : Cond) ∈ wg := wg_in 113 (by decide +kernel) (by decide +kernel)
theorem kw_74 : (.fieldLink R_GasStore 46 "DigesterRates$GasStore" "flared" "J" : Cond) ∈ wg := wg_in 115 (by decide +kernel) (by decide +kernel)
theorem kw_75 : (.classLink R_DR 37 R_AcidPeaks : Cond) ∈ wg := wg_in 136 (by decide +kernel) (by decide +kernel)
theorem kw_76 : (.instantiable R_AcidPeaks 2 : Cond) ∈ wg := wg_in 137 (by decide +kernel) (by decide +kernel)
theorem kw_77 : (.instanceMethod y_AcidPeaks_init : Cond) ∈ wg := wg_in 139 (by decide +kernel) (by decide +kernel)
theorem kw_78 : (.code y_AcidPeaks_init b_AcidPeaks_init 1 none : Cond) ∈ wg := wg_in 140 (by decide +kernel) (by decide +kernel)
theorem kw_79 : (.methodLink R_AcidPeaks 3 objectInit : Cond) ∈ wg := wg_in 141 (by decide +kernel) (by decide +kernel)
theorem kw_80 : (.fieldLink R_AcidPeaks 11 "DigesterRates$AcidPeaks" "peaks" "[J" : Cond) ∈ wg := wg_in 142 (by decide +kernel) (by decide +kernel)
theorem kw_81 : (.fieldLink R_AcidPeaks 15 "DigesterRates$AcidPeaks" "count" "I" : Cond) ∈ wg := wg_in 143 (by decide +kernel) (by decide +kernel)
theorem kw_82 : (.classLink R_DR 44 R_Planner : Cond) ∈ wg := wg_in 149 (by decide +kernel) (by decide +kernel)
theorem kw_83 : (.instantiable R_Planner 5 : Cond) ∈ wg := wg_in 150 (by decide +kernel) (by decide +kernel)
theorem kw_84 : (.instanceMethod y_Planner_init : Cond) ∈ wg := wg_in 152 (by decide +kernel) (by decide +kernel)
theorem kw_85 : (.code y_Planner_init b_Planner_init 1 none : Cond) ∈ wg := wg_in 153 (by decide +kernel) (by decide +kernel)
theorem kw_86 : (.methodLink R_Planner 3 objectInit : Cond) ∈ wg := wg_in 154 (by decide +kernel) (by decide +kernel)
theorem kw_87 : (.fieldLink R_Planner 9 "DigesterRates$Planner" "grams" "[I" : Cond) ∈ wg := wg_in 155 (by decide +kernel) (by decide +kernel)
theorem kw_88 : (.fieldLink R_Planner 15 "DigesterRates$Planner" "cents" "[I" : Cond) ∈ wg := wg_in 157 (by decide +kernel) (by decide +kernel)
theorem kw_89 : (.fieldLink R_Planner 18 "DigesterRates$Planner" "gas" "[I" : Cond) ∈ wg := wg_in 158 (by decide +kernel) (by decide +kernel)
theorem kw_90 : (.fieldLink R_Planner 21 "DigesterRates$Planner" "times" "[I" : Cond) ∈ wg := wg_in 159 (by decide +kernel) (by decide +kernel)
theorem kw_91 : (.fieldLink R_Planner 39 "DigesterRates$Planner" "found" "Z" : Cond) ∈ wg := wg_in 161 (by decide +kernel) (by decide +kernel)
theorem kw_92 : (.fieldLink R_DR 10 "DigesterRates" "shares" "LDigesterRates$Shares;" : Cond) ∈ wg := wg_in 174 (by decide +kernel) (by decide +kernel)
theorem kw_93 : (.fieldLink R_DR 19 "DigesterRates" "told" "LDigesterRates$Told;" : Cond) ∈ wg := wg_in 175 (by decide +kernel) (by decide +kernel)
theorem kw_94 : (.fieldLink R_DR 26 "DigesterRates" "tank" "LDigesterRates$Tank;" : Cond) ∈ wg := wg_in 176 (by decide +kernel) (by decide +kernel)
theorem kw_95 : (.fieldLink R_DR 33 "DigesterRates" "store" "LDigesterRates$GasStore;" : Cond) ∈ wg := wg_in 177 (by decide +kernel) (by decide +kernel)
theorem kw_96 : (.fieldLink R_DR 40 "DigesterRates" "peaks" "LDigesterRates$AcidPeaks;" : Cond) ∈ wg := wg_in 178 (by decide +kernel) (by decide +kernel)
theorem kw_97 : (.fieldLink R_DR 47 "DigesterRates" "planner" "LDigesterRates$Planner;" : Cond) ∈ wg := wg_in 179 (by decide +kernel) (by decide +kernel)
theorem kw_98 : (.fieldLink R_DR 51 "DigesterRates" "nextMinute" "I" : Cond) ∈ wg := wg_in 180 (by decide +kernel) (by decide +kernel)
theorem kw_99 : (.methodLink R_Law 13 y_DR_kind : Cond) ∈ wg := wg_in 196 (by decide +kernel) (by decide +kernel)
theorem kw_100 : (.instanceMethod y_DR_kind : Cond) ∈ wg := wg_in 197 (by decide +kernel) (by decide +kernel)
theorem kw_101 : (.selects R_DR y_DR_kind y_DR_kind : Cond) ∈ wg := wg_in 198 (by decide +kernel) (by decide +kernel)
theorem kw_102 : (.code y_DR_kind b_DR_kind 4 (some .boolean) : Cond) ∈ wg := wg_in 199 (by decide +kernel) (by decide +kernel)
theorem kw_103 : (.methodLink R_DR 55 y_DR_isKind : Cond) ∈ wg := wg_in 200 (by decide +kernel) (by decide +kernel)
theorem kw_104 : (.static y_DR_isKind : Cond) ∈ wg := wg_in 201 (by decide +kernel) (by decide +kernel)
theorem kw_105 : (.code y_DR_isKind b_DR_isKind 1 (some .boolean) : Cond) ∈ wg := wg_in 202 (by decide +kernel) (by decide +kernel)
theorem kw_106 : (.methodLink R_DR 59 y_DR_within : Cond) ∈ wg := wg_in 203 (by decide +kernel) (by decide +kernel)
theorem kw_107 : (.static y_DR_within : Cond) ∈ wg := wg_in 204 (by decide +kernel) (by decide +kernel)
theorem kw_108 : (.code y_DR_within b_DR_within 3 (some .boolean) : Cond) ∈ wg := wg_in 205 (by decide +kernel) (by decide +kernel)
theorem kw_109 : (.methodLink R_DR 63 y_Shares_change : Cond) ∈ wg := wg_in 206 (by decide +kernel) (by decide +kernel)
theorem kw_110 : (.instanceMethod y_Shares_change : Cond) ∈ wg := wg_in 207 (by decide +kernel) (by decide +kernel)
theorem kw_111 : (.selects R_Shares y_Shares_change y_Shares_change : Cond) ∈ wg := wg_in 208 (by decide +kernel) (by decide +kernel)
theorem kw_112 : (.code y_Shares_change b_Shares_change 6 (some .boolean) : Cond) ∈ wg := wg_in 209 (by decide +kernel) (by decide +kernel)
theorem kw_113 : (.methodLink R_Shares 15 y_Shares_of : Cond) ∈ wg := wg_in 210 (by decide +kernel) (by decide +kernel)
theorem kw_114 : (.instanceMethod y_Shares_of : Cond) ∈ wg := wg_in 211 (by decide +kernel) (by decide +kernel)
theorem kw_115 : (.selects R_Shares y_Shares_of y_Shares_of : Cond) ∈ wg := wg_in 212 (by decide +kernel) (by decide +kernel)
theorem kw_116 : (.code y_Shares_of b_Shares_of 3 (some .int) : Cond) ∈ wg := wg_in 213 (by decide +kernel) (by decide +kernel)
theorem kw_117 : (.methodLink R_Law 18 y_DR_start : Cond) ∈ wg := wg_in 214 (by decide +kernel) (by decide +kernel)
theorem kw_118 : (.instanceMethod y_DR_start : Cond) ∈ wg := wg_in 215 (by decide +kernel) (by decide +kernel)
theorem kw_119 : (.selects R_DR y_DR_start y_DR_start : Cond) ∈ wg := wg_in 216 (by decide +kernel) (by decide +kernel)
theorem kw_120 : (.code y_DR_start b_DR_start 3 (some .boolean) : Cond) ∈ wg := wg_in 217 (by decide +kernel) (by decide +kernel)
theorem kw_121 : (.methodLink R_DR 66 y_DR_isPart : Cond) ∈ wg := wg_in 218 (by decide +kernel) (by decide +kernel)
theorem kw_122 : (.static y_DR_isPart : Cond) ∈ wg := wg_in 219 (by decide +kernel) (by decide +kernel)
theorem kw_123 : (.code y_DR_isPart b_DR_isPart 1 (some .boolean) : Cond) ∈ wg := wg_in 220 (by decide +kernel) (by decide +kernel)
theorem kw_124 : (.constant R_DR 69 (1000000) : Cond) ∈ wg := wg_in 221 (by decide +kernel) (by decide +kernel)
theorem kw_125 : (.constantLong R_DR 74 (1000000000) : Cond) ∈ wg := wg_in 222 (by decide +kernel) (by decide +kernel)
theorem kw_126 : (.methodLink R_DR 76 y_Tank_bring : Cond) ∈ wg := wg_in 223 (by decide +kernel) (by decide +kernel)
theorem kw_127 : (.instanceMethod y_Tank_bring : Cond) ∈ wg := wg_in 224 (by decide +kernel) (by decide +kernel)
theorem kw_128 : (.selects R_Tank y_Tank_bring y_Tank_bring : Cond) ∈ wg := wg_in 225 (by decide +kernel) (by decide +kernel)
theorem kw_129 : (.code y_Tank_bring b_Tank_bring 4 none : Cond) ∈ wg := wg_in 226 (by decide +kernel) (by decide +kernel)
theorem kw_130 : (.methodLink R_Law 23 y_DR_feed : Cond) ∈ wg := wg_in 227 (by decide +kernel) (by decide +kernel)
theorem kw_131 : (.instanceMethod y_DR_feed : Cond) ∈ wg := wg_in 228 (by decide +kernel) (by decide +kernel)
theorem kw_132 : (.selects R_DR y_DR_feed y_DR_feed : Cond) ∈ wg := wg_in 229 (by decide +kernel) (by decide +kernel)
theorem kw_133 : (.code y_DR_feed b_DR_feed 4 (some .boolean) : Cond) ∈ wg := wg_in 230 (by decide +kernel) (by decide +kernel)
theorem kw_134 : (.constant R_DR 80 (100000) : Cond) ∈ wg := wg_in 231 (by decide +kernel) (by decide +kernel)
theorem kw_135 : (.methodLink R_DR 81 y_Told_hasRoomFor : Cond) ∈ wg := wg_in 232 (by decide +kernel) (by decide +kernel)
theorem kw_136 : (.instanceMethod y_Told_hasRoomFor : Cond) ∈ wg := wg_in 233 (by decide +kernel) (by decide +kernel)
theorem kw_137 : (.selects R_Told y_Told_hasRoomFor y_Told_hasRoomFor : Cond) ∈ wg := wg_in 234 (by decide +kernel) (by decide +kernel)
theorem kw_138 : (.code y_Told_hasRoomFor b_Told_hasRoomFor 2 (some .boolean) : Cond) ∈ wg := wg_in 235 (by decide +kernel) (by decide +kernel)
theorem kw_139 : (.methodLink R_DR 84 y_Told_add : Cond) ∈ wg := wg_in 236 (by decide +kernel) (by decide +kernel)
theorem kw_140 : (.instanceMethod y_Told_add : Cond) ∈ wg := wg_in 237 (by decide +kernel) (by decide +kernel)
theorem kw_141 : (.selects R_Told y_Told_add y_Told_add : Cond) ∈ wg := wg_in 238 (by decide +kernel) (by decide +kernel)
theorem kw_142 : (.code y_Told_add b_Told_add 4 none : Cond) ∈ wg := wg_in 239 (by decide +kernel) (by decide +kernel)
theorem kw_143 : (.methodLink R_Told 25 y_Told_hasRoomFor : Cond) ∈ wg := wg_in 240 (by decide +kernel) (by decide +kernel)
theorem kw_144 : (.methodLink R_Law 27 y_DR_rate : Cond) ∈ wg := wg_in 241 (by decide +kernel) (by decide +kernel)
theorem kw_145 : (.instanceMethod y_DR_rate : Cond) ∈ wg := wg_in 242 (by decide +kernel) (by decide +kernel)
theorem kw_146 : (.selects R_DR y_DR_rate y_DR_rate : Cond) ∈ wg := wg_in 243 (by decide +kernel) (by decide +kernel)
theorem kw_147 : (.code y_DR_rate b_DR_rate 3 (some .boolean) : Cond) ∈ wg := wg_in 244 (by decide +kernel) (by decide +kernel)
theorem kw_148 : (.methodLink R_Law 31 y_DR_bound : Cond) ∈ wg := wg_in 245 (by decide +kernel) (by decide +kernel)
theorem kw_149 : (.instanceMethod y_DR_bound : Cond) ∈ wg := wg_in 246 (by decide +kernel) (by decide +kernel)
theorem kw_150 : (.selects R_DR y_DR_bound y_DR_bound : Cond) ∈ wg := wg_in 247 (by decide +kernel) (by decide +kernel)
theorem kw_151 : (.code y_DR_bound b_DR_bound 2 (some .boolean) : Cond) ∈ wg := wg_in 248 (by decide +kernel) (by decide +kernel)
theorem kw_152 : (.constant R_DR 92 (1000000000) : Cond) ∈ wg := wg_in 249 (by decide +kernel) (by decide +kernel)
theorem kw_153 : (.methodLink R_Law 36 y_DR_room : Cond) ∈ wg := wg_in 250 (by decide +kernel) (by decide +kernel)
theorem kw_154 : (.instanceMethod y_DR_room : Cond) ∈ wg := wg_in 251 (by decide +kernel) (by decide +kernel)
theorem kw_155 : (.selects R_DR y_DR_room y_DR_room : Cond) ∈ wg := wg_in 252 (by decide +kernel) (by decide +kernel)
theorem kw_156 : (.code y_DR_room b_DR_room 2 (some .boolean) : Cond) ∈ wg := wg_in 253 (by decide +kernel) (by decide +kernel)
theorem kw_157 : (.methodLink R_Law 40 y_DR_rank : Cond) ∈ wg := wg_in 254 (by decide +kernel) (by decide +kernel)
theorem kw_158 : (.instanceMethod y_DR_rank : Cond) ∈ wg := wg_in 255 (by decide +kernel) (by decide +kernel)
theorem kw_159 : (.selects R_DR y_DR_rank y_DR_rank : Cond) ∈ wg := wg_in 256 (by decide +kernel) (by decide +kernel)
theorem kw_160 : (.code y_DR_rank b_DR_rank 3 (some .int) : Cond) ∈ wg := wg_in 257 (by decide +kernel) (by decide +kernel)
theorem kw_161 : (.methodLink R_DR 99 y_GasStore_addUser : Cond) ∈ wg := wg_in 258 (by decide +kernel) (by decide +kernel)
theorem kw_162 : (.instanceMethod y_GasStore_addUser : Cond) ∈ wg := wg_in 259 (by decide +kernel) (by decide +kernel)
theorem kw_163 : (.selects R_GasStore y_GasStore_addUser y_GasStore_addUser : Cond) ∈ wg := wg_in 260 (by decide +kernel) (by decide +kernel)
theorem kw_164 : (.code y_GasStore_addUser b_GasStore_addUser 5 (some .int) : Cond) ∈ wg := wg_in 261 (by decide +kernel) (by decide +kernel)
theorem kw_165 : (.methodLink R_Law 45 y_DR_run : Cond) ∈ wg := wg_in 262 (by decide +kernel) (by decide +kernel)
theorem kw_166 : (.instanceMethod y_DR_run : Cond) ∈ wg := wg_in 263 (by decide +kernel) (by decide +kernel)
theorem kw_167 : (.selects R_DR y_DR_run y_DR_run : Cond) ∈ wg := wg_in 264 (by decide +kernel) (by decide +kernel)
theorem kw_168 : (.code y_DR_run b_DR_run 3 (some .int) : Cond) ∈ wg := wg_in 265 (by decide +kernel) (by decide +kernel)
theorem kw_169 : (.methodLink R_DR 103 y_AcidPeaks_makeRoomFor : Cond) ∈ wg := wg_in 266 (by decide +kernel) (by decide +kernel)
theorem kw_170 : (.instanceMethod y_AcidPeaks_makeRoomFor : Cond) ∈ wg := wg_in 267 (by decide +kernel) (by decide +kernel)
theorem kw_171 : (.selects R_AcidPeaks y_AcidPeaks_makeRoomFor y_AcidPeaks_makeRoomFor : Cond) ∈ wg := wg_in 268 (by decide +kernel) (by decide +kernel)
theorem kw_172 : (.code y_AcidPeaks_makeRoomFor b_AcidPeaks_makeRoomFor 3 none : Cond) ∈ wg := wg_in 269 (by decide +kernel) (by decide +kernel)
theorem kw_173 : (.methodLink R_AcidPeaks 19 Lib.Math.min.name : Cond) ∈ wg := wg_in 270 (by decide +kernel) (by decide +kernel)
theorem kw_174 : (.static Lib.Math.min.name : Cond) ∈ wg := wg_in 271 (by decide +kernel) (by decide +kernel)
theorem kw_175 : (.code Lib.Math.min.name Lib.Math.min.code 2 (some .int) : Cond) ∈ wg := wg_in 272 (by decide +kernel) (by decide +kernel)
theorem kw_176 : (.methodLink R_AcidPeaks 25 Lib.Math.max.name : Cond) ∈ wg := wg_in 273 (by decide +kernel) (by decide +kernel)
theorem kw_177 : (.static Lib.Math.max.name : Cond) ∈ wg := wg_in 274 (by decide +kernel) (by decide +kernel)
theorem kw_178 : (.code Lib.Math.max.name Lib.Math.max.code 2 (some .int) : Cond) ∈ wg := wg_in 275 (by decide +kernel) (by decide +kernel)
theorem kw_179 : (.methodLink R_AcidPeaks 28 y_Arrays_copyOf : Cond) ∈ wg := wg_in 276 (by decide +kernel) (by decide +kernel)
theorem kw_180 : (.static y_Arrays_copyOf : Cond) ∈ wg := wg_in 277 (by decide +kernel) (by decide +kernel)
theorem kw_181 : (.code y_Arrays_copyOf b_Arrays_copyOf 3 (some (.array .long)) : Cond) ∈ wg := wg_in 278 (by decide +kernel) (by decide +kernel)
theorem kw_182 : (.classLink R_Arrays 320 "[J" : Cond) ∈ wg := wg_in 285 (by decide +kernel) (by decide +kernel)
theorem kw_183 : (.methodLink R_Arrays 304 Lib.Math.min.name : Cond) ∈ wg := wg_in 286 (by decide +kernel) (by decide +kernel)
theorem kw_184 : (.methodLink R_Arrays 150 arraycopyName : Cond) ∈ wg := wg_in 287 (by decide +kernel) (by decide +kernel)
theorem kw_185 : (.static arraycopyName : Cond) ∈ wg := wg_in 288 (by decide +kernel) (by decide +kernel)
theorem kw_186 : (.native arraycopyName : Cond) ∈ wg := wg_in 289 (by decide +kernel) (by decide +kernel)
theorem kw_187 : (.methodLink R_DR 107 y_DR_passMinute : Cond) ∈ wg := wg_in 290 (by decide +kernel) (by decide +kernel)
theorem kw_188 : (.instanceMethod y_DR_passMinute : Cond) ∈ wg := wg_in 292 (by decide +kernel) (by decide +kernel)
theorem kw_189 : (.code y_DR_passMinute b_DR_passMinute 1 none : Cond) ∈ wg := wg_in 293 (by decide +kernel) (by decide +kernel)
theorem kw_190 : (.methodLink R_DR 166 y_DR_takeInTold : Cond) ∈ wg := wg_in 294 (by decide +kernel) (by decide +kernel)
theorem kw_191 : (.instanceMethod y_DR_takeInTold : Cond) ∈ wg := wg_in 296 (by decide +kernel) (by decide +kernel)
theorem kw_192 : (.code y_DR_takeInTold b_DR_takeInTold 2 none : Cond) ∈ wg := wg_in 297 (by decide +kernel) (by decide +kernel)
theorem kw_193 : (.methodLink R_DR 188 y_DR_takeIn : Cond) ∈ wg := wg_in 298 (by decide +kernel) (by decide +kernel)
theorem kw_194 : (.instanceMethod y_DR_takeIn : Cond) ∈ wg := wg_in 300 (by decide +kernel) (by decide +kernel)
theorem kw_195 : (.code y_DR_takeIn b_DR_takeIn 9 none : Cond) ∈ wg := wg_in 301 (by decide +kernel) (by decide +kernel)
theorem kw_196 : (.methodLink R_DR 191 y_Shares_of : Cond) ∈ wg := wg_in 302 (by decide +kernel) (by decide +kernel)
theorem kw_197 : (.methodLink R_DR 194 y_DR_thousandthsOf : Cond) ∈ wg := wg_in 303 (by decide +kernel) (by decide +kernel)
theorem kw_198 : (.static y_DR_thousandthsOf : Cond) ∈ wg := wg_in 304 (by decide +kernel) (by decide +kernel)
theorem kw_199 : (.code y_DR_thousandthsOf b_DR_thousandthsOf 4 (some .long) : Cond) ∈ wg := wg_in 305 (by decide +kernel) (by decide +kernel)
theorem kw_200 : (.constantLong R_DR 198 (1000) : Cond) ∈ wg := wg_in 306 (by decide +kernel) (by decide +kernel)
theorem kw_201 : (.methodLink R_DR 169 y_Tank_breakDown : Cond) ∈ wg := wg_in 307 (by decide +kernel) (by decide +kernel)
theorem kw_202 : (.instanceMethod y_Tank_breakDown : Cond) ∈ wg := wg_in 308 (by decide +kernel) (by decide +kernel)
theorem kw_203 : (.selects R_Tank y_Tank_breakDown y_Tank_breakDown : Cond) ∈ wg := wg_in 309 (by decide +kernel) (by decide +kernel)
theorem kw_204 : (.code y_Tank_breakDown b_Tank_breakDown 9 (some .long) : Cond) ∈ wg := wg_in 310 (by decide +kernel) (by decide +kernel)
theorem kw_205 : (.methodLink R_Tank 28 y_Tank_speed : Cond) ∈ wg := wg_in 311 (by decide +kernel) (by decide +kernel)
theorem kw_206 : (.instanceMethod y_Tank_speed : Cond) ∈ wg := wg_in 313 (by decide +kernel) (by decide +kernel)
theorem kw_207 : (.code y_Tank_speed b_Tank_speed 1 (some .long) : Cond) ∈ wg := wg_in 314 (by decide +kernel) (by decide +kernel)
theorem kw_208 : (.constantLong R_Tank 39 (1000) : Cond) ∈ wg := wg_in 315 (by decide +kernel) (by decide +kernel)
theorem kw_209 : (.methodLink R_Tank 32 y_Tank_broken : Cond) ∈ wg := wg_in 316 (by decide +kernel) (by decide +kernel)
theorem kw_210 : (.instanceMethod y_Tank_broken : Cond) ∈ wg := wg_in 318 (by decide +kernel) (by decide +kernel)
theorem kw_211 : (.code y_Tank_broken b_Tank_broken 4 (some .long) : Cond) ∈ wg := wg_in 319 (by decide +kernel) (by decide +kernel)
theorem kw_212 : (.static y_DR_millionthsOf : Cond) ∈ wg := wg_in 321 (by decide +kernel) (by decide +kernel)
theorem kw_213 : (.code y_DR_millionthsOf b_DR_millionthsOf 4 (some .long) : Cond) ∈ wg := wg_in 322 (by decide +kernel) (by decide +kernel)
theorem kw_214 : (.constantLong R_DR 200 (1000000) : Cond) ∈ wg := wg_in 323 (by decide +kernel) (by decide +kernel)
theorem kw_215 : (.methodLink R_DR 172 y_GasStore_passGas : Cond) ∈ wg := wg_in 325 (by decide +kernel) (by decide +kernel)
theorem kw_216 : (.instanceMethod y_GasStore_passGas : Cond) ∈ wg := wg_in 326 (by decide +kernel) (by decide +kernel)
theorem kw_217 : (.selects R_GasStore y_GasStore_passGas y_GasStore_passGas : Cond) ∈ wg := wg_in 327 (by decide +kernel) (by decide +kernel)
theorem kw_218 : (.code y_GasStore_passGas b_GasStore_passGas 5 none : Cond) ∈ wg := wg_in 328 (by decide +kernel) (by decide +kernel)
theorem kw_219 : (.methodLink R_GasStore 33 y_GasStore_giveTo : Cond) ∈ wg := wg_in 329 (by decide +kernel) (by decide +kernel)
theorem kw_220 : (.instanceMethod y_GasStore_giveTo : Cond) ∈ wg := wg_in 331 (by decide +kernel) (by decide +kernel)
theorem kw_221 : (.code y_GasStore_giveTo b_GasStore_giveTo 4 none : Cond) ∈ wg := wg_in 332 (by decide +kernel) (by decide +kernel)
theorem kw_222 : (.methodLink R_GasStore 49 Lib.MathLoose.min_long.x : Cond) ∈ wg := wg_in 333 (by decide +kernel) (by decide +kernel)
theorem kw_223 : (.static Lib.MathLoose.min_long.x : Cond) ∈ wg := wg_in 334 (by decide +kernel) (by decide +kernel)
theorem kw_224 : (.code Lib.MathLoose.min_long.x Lib.MathLoose.min_long.code 4 (some .long) : Cond) ∈ wg := wg_in 335 (by decide +kernel) (by decide +kernel)
theorem kw_225 : (.methodLink R_GasStore 40 Lib.MathLoose.max_long.x : Cond) ∈ wg := wg_in 336 (by decide +kernel) (by decide +kernel)
theorem kw_226 : (.static Lib.MathLoose.max_long.x : Cond) ∈ wg := wg_in 337 (by decide +kernel) (by decide +kernel)
theorem kw_227 : (.code Lib.MathLoose.max_long.x Lib.MathLoose.max_long.code 4 (some .long) : Cond) ∈ wg := wg_in 338 (by decide +kernel) (by decide +kernel)
theorem kw_228 : (.methodLink R_DR 176 y_AcidPeaks_add : Cond) ∈ wg := wg_in 339 (by decide +kernel) (by decide +kernel)
theorem kw_229 : (.instanceMethod y_AcidPeaks_add : Cond) ∈ wg := wg_in 340 (by decide +kernel) (by decide +kernel)
theorem kw_230 : (.selects R_AcidPeaks y_AcidPeaks_add y_AcidPeaks_add : Cond) ∈ wg := wg_in 341 (by decide +kernel) (by decide +kernel)
theorem kw_231 : (.code y_AcidPeaks_add b_AcidPeaks_add 3 none : Cond) ∈ wg := wg_in 342 (by decide +kernel) (by decide +kernel)
theorem kw_232 : (.methodLink R_AcidPeaks 34 Lib.MathLoose.max_long.x : Cond) ∈ wg := wg_in 343 (by decide +kernel) (by decide +kernel)
theorem kw_233 : (.methodLink R_Law 50 y_DR_at : Cond) ∈ wg := wg_in 344 (by decide +kernel) (by decide +kernel)
theorem kw_234 : (.instanceMethod y_DR_at : Cond) ∈ wg := wg_in 345 (by decide +kernel) (by decide +kernel)
theorem kw_235 : (.selects R_DR y_DR_at y_DR_at : Cond) ∈ wg := wg_in 346 (by decide +kernel) (by decide +kernel)
theorem kw_236 : (.code y_DR_at b_DR_at 2 (some .long) : Cond) ∈ wg := wg_in 347 (by decide +kernel) (by decide +kernel)
theorem kw_237 : (.constantLong R_DR 110 (-1) : Cond) ∈ wg := wg_in 348 (by decide +kernel) (by decide +kernel)
theorem kw_238 : (.methodLink R_Law 55 y_DR_given : Cond) ∈ wg := wg_in 349 (by decide +kernel) (by decide +kernel)
theorem kw_239 : (.instanceMethod y_DR_given : Cond) ∈ wg := wg_in 350 (by decide +kernel) (by decide +kernel)
theorem kw_240 : (.selects R_DR y_DR_given y_DR_given : Cond) ∈ wg := wg_in 351 (by decide +kernel) (by decide +kernel)
theorem kw_241 : (.code y_DR_given b_DR_given 2 (some .long) : Cond) ∈ wg := wg_in 352 (by decide +kernel) (by decide +kernel)
theorem kw_242 : (.methodLink R_Law 59 y_DR_gone : Cond) ∈ wg := wg_in 353 (by decide +kernel) (by decide +kernel)
theorem kw_243 : (.instanceMethod y_DR_gone : Cond) ∈ wg := wg_in 354 (by decide +kernel) (by decide +kernel)
theorem kw_244 : (.selects R_DR y_DR_gone y_DR_gone : Cond) ∈ wg := wg_in 355 (by decide +kernel) (by decide +kernel)
theorem kw_245 : (.code y_DR_gone b_DR_gone 2 (some .long) : Cond) ∈ wg := wg_in 356 (by decide +kernel) (by decide +kernel)
theorem kw_246 : (.methodLink R_Law 63 y_DR_balance : Cond) ∈ wg := wg_in 357 (by decide +kernel) (by decide +kernel)
theorem kw_247 : (.instanceMethod y_DR_balance : Cond) ∈ wg := wg_in 358 (by decide +kernel) (by decide +kernel)
theorem kw_248 : (.selects R_DR y_DR_balance y_DR_balance : Cond) ∈ wg := wg_in 359 (by decide +kernel) (by decide +kernel)
theorem kw_249 : (.code y_DR_balance b_DR_balance 2 (some .long) : Cond) ∈ wg := wg_in 360 (by decide +kernel) (by decide +kernel)
theorem kw_250 : (.methodLink R_DR 134 y_Tank_allParts : Cond) ∈ wg := wg_in 361 (by decide +kernel) (by decide +kernel)
theorem kw_251 : (.instanceMethod y_Tank_allParts : Cond) ∈ wg := wg_in 362 (by decide +kernel) (by decide +kernel)
theorem kw_252 : (.selects R_Tank y_Tank_allParts y_Tank_allParts : Cond) ∈ wg := wg_in 363 (by decide +kernel) (by decide +kernel)
theorem kw_253 : (.code y_Tank_allParts b_Tank_allParts 4 (some .long) : Cond) ∈ wg := wg_in 364 (by decide +kernel) (by decide +kernel)
theorem kw_254 : (.methodLink R_Law 67 y_DR_acid : Cond) ∈ wg := wg_in 365 (by decide +kernel) (by decide +kernel)
theorem kw_255 : (.instanceMethod y_DR_acid : Cond) ∈ wg := wg_in 366 (by decide +kernel) (by decide +kernel)
theorem kw_256 : (.selects R_DR y_DR_acid y_DR_acid : Cond) ∈ wg := wg_in 367 (by decide +kernel) (by decide +kernel)
theorem kw_257 : (.code y_DR_acid b_DR_acid 1 (some .int) : Cond) ∈ wg := wg_in 368 (by decide +kernel) (by decide +kernel)
theorem kw_258 : (.methodLink R_DR 138 y_Tank_sourness : Cond) ∈ wg := wg_in 369 (by decide +kernel) (by decide +kernel)
theorem kw_259 : (.instanceMethod y_Tank_sourness : Cond) ∈ wg := wg_in 370 (by decide +kernel) (by decide +kernel)
theorem kw_260 : (.selects R_Tank y_Tank_sourness y_Tank_sourness : Cond) ∈ wg := wg_in 371 (by decide +kernel) (by decide +kernel)
theorem kw_261 : (.code y_Tank_sourness b_Tank_sourness 3 (some .int) : Cond) ∈ wg := wg_in 372 (by decide +kernel) (by decide +kernel)
theorem kw_262 : (.constant R_Tank 48 (524288) : Cond) ∈ wg := wg_in 373 (by decide +kernel) (by decide +kernel)
theorem kw_263 : (.methodLink R_Tank 49 y_Tank_isSour : Cond) ∈ wg := wg_in 374 (by decide +kernel) (by decide +kernel)
theorem kw_264 : (.instanceMethod y_Tank_isSour : Cond) ∈ wg := wg_in 376 (by decide +kernel) (by decide +kernel)
theorem kw_265 : (.code y_Tank_isSour b_Tank_isSour 3 (some .boolean) : Cond) ∈ wg := wg_in 377 (by decide +kernel) (by decide +kernel)
theorem kw_266 : (.constantLong R_Tank 53 (1000000) : Cond) ∈ wg := wg_in 378 (by decide +kernel) (by decide +kernel)
theorem kw_267 : (.methodLink R_Law 74 y_DR_sour : Cond) ∈ wg := wg_in 379 (by decide +kernel) (by decide +kernel)
theorem kw_268 : (.instanceMethod y_DR_sour : Cond) ∈ wg := wg_in 380 (by decide +kernel) (by decide +kernel)
theorem kw_269 : (.selects R_DR y_DR_sour y_DR_sour : Cond) ∈ wg := wg_in 381 (by decide +kernel) (by decide +kernel)
theorem kw_270 : (.code y_DR_sour b_DR_sour 3 (some .int) : Cond) ∈ wg := wg_in 382 (by decide +kernel) (by decide +kernel)
theorem kw_271 : (.methodLink R_DR 142 y_AcidPeaks_firstAbove : Cond) ∈ wg := wg_in 383 (by decide +kernel) (by decide +kernel)
theorem kw_272 : (.instanceMethod y_AcidPeaks_firstAbove : Cond) ∈ wg := wg_in 384 (by decide +kernel) (by decide +kernel)
theorem kw_273 : (.selects R_AcidPeaks y_AcidPeaks_firstAbove y_AcidPeaks_firstAbove : Cond) ∈ wg := wg_in 385 (by decide +kernel) (by decide +kernel)
theorem kw_274 : (.code y_AcidPeaks_firstAbove b_AcidPeaks_firstAbove 6 (some .int) : Cond) ∈ wg := wg_in 386 (by decide +kernel) (by decide +kernel)
theorem kw_275 : (.methodLink R_Law 79 y_DR_load : Cond) ∈ wg := wg_in 387 (by decide +kernel) (by decide +kernel)
theorem kw_276 : (.instanceMethod y_DR_load : Cond) ∈ wg := wg_in 388 (by decide +kernel) (by decide +kernel)
theorem kw_277 : (.selects R_DR y_DR_load y_DR_load : Cond) ∈ wg := wg_in 389 (by decide +kernel) (by decide +kernel)
theorem kw_278 : (.code y_DR_load b_DR_load 5 (some .boolean) : Cond) ∈ wg := wg_in 390 (by decide +kernel) (by decide +kernel)
theorem kw_279 : (.methodLink R_DR 146 y_Planner_setLoad : Cond) ∈ wg := wg_in 391 (by decide +kernel) (by decide +kernel)
theorem kw_280 : (.instanceMethod y_Planner_setLoad : Cond) ∈ wg := wg_in 392 (by decide +kernel) (by decide +kernel)
theorem kw_281 : (.selects R_Planner y_Planner_setLoad y_Planner_setLoad : Cond) ∈ wg := wg_in 393 (by decide +kernel) (by decide +kernel)
theorem kw_282 : (.code y_Planner_setLoad b_Planner_setLoad 5 none : Cond) ∈ wg := wg_in 394 (by decide +kernel) (by decide +kernel)
theorem kw_283 : (.methodLink R_Law 84 y_DR_plan : Cond) ∈ wg := wg_in 395 (by decide +kernel) (by decide +kernel)
theorem kw_284 : (.instanceMethod y_DR_plan : Cond) ∈ wg := wg_in 396 (by decide +kernel) (by decide +kernel)
theorem kw_285 : (.selects R_DR y_DR_plan y_DR_plan : Cond) ∈ wg := wg_in 397 (by decide +kernel) (by decide +kernel)
theorem kw_286 : (.code y_DR_plan b_DR_plan 2 (some .int) : Cond) ∈ wg := wg_in 398 (by decide +kernel) (by decide +kernel)
theorem kw_287 : (.methodLink R_DR 150 y_Planner_find : Cond) ∈ wg := wg_in 399 (by decide +kernel) (by decide +kernel)
theorem kw_288 : (.instanceMethod y_Planner_find : Cond) ∈ wg := wg_in 400 (by decide +kernel) (by decide +kernel)
theorem kw_289 : (.selects R_Planner y_Planner_find y_Planner_find : Cond) ∈ wg := wg_in 401 (by decide +kernel) (by decide +kernel)
theorem kw_290 : (.code y_Planner_find b_Planner_find 8 (some .int) : Cond) ∈ wg := wg_in 402 (by decide +kernel) (by decide +kernel)
theorem kw_291 : (.methodLink R_Planner 24 y_Planner_mostTimes : Cond) ∈ wg := wg_in 403 (by decide +kernel) (by decide +kernel)
theorem kw_292 : (.instanceMethod y_Planner_mostTimes : Cond) ∈ wg := wg_in 405 (by decide +kernel) (by decide +kernel)
theorem kw_293 : (.code y_Planner_mostTimes b_Planner_mostTimes 2 (some .int) : Cond) ∈ wg := wg_in 406 (by decide +kernel) (by decide +kernel)
theorem kw_294 : (.methodLink R_Planner 28 y_Planner_sum : Cond) ∈ wg := wg_in 407 (by decide +kernel) (by decide +kernel)
theorem kw_295 : (.static y_Planner_sum : Cond) ∈ wg := wg_in 408 (by decide +kernel) (by decide +kernel)
theorem kw_296 : (.code y_Planner_sum b_Planner_sum 4 (some .int) : Cond) ∈ wg := wg_in 409 (by decide +kernel) (by decide +kernel)
theorem kw_297 : (.methodLink R_Planner 32 y_Planner_fewestOfLast : Cond) ∈ wg := wg_in 410 (by decide +kernel) (by decide +kernel)
theorem kw_298 : (.instanceMethod y_Planner_fewestOfLast : Cond) ∈ wg := wg_in 412 (by decide +kernel) (by decide +kernel)
theorem kw_299 : (.code y_Planner_fewestOfLast b_Planner_fewestOfLast 4 (some .int) : Cond) ∈ wg := wg_in 413 (by decide +kernel) (by decide +kernel)
theorem kw_300 : (.methodLink R_Planner 35 y_Planner_keep : Cond) ∈ wg := wg_in 414 (by decide +kernel) (by decide +kernel)
theorem kw_301 : (.instanceMethod y_Planner_keep : Cond) ∈ wg := wg_in 416 (by decide +kernel) (by decide +kernel)
theorem kw_302 : (.code y_Planner_keep b_Planner_keep 5 none : Cond) ∈ wg := wg_in 417 (by decide +kernel) (by decide +kernel)
theorem kw_303 : (.methodLink R_Law 88 y_DR_planned : Cond) ∈ wg := wg_in 418 (by decide +kernel) (by decide +kernel)
theorem kw_304 : (.instanceMethod y_DR_planned : Cond) ∈ wg := wg_in 419 (by decide +kernel) (by decide +kernel)
theorem kw_305 : (.selects R_DR y_DR_planned y_DR_planned : Cond) ∈ wg := wg_in 420 (by decide +kernel) (by decide +kernel)
theorem kw_306 : (.code y_DR_planned b_DR_planned 2 (some .int) : Cond) ∈ wg := wg_in 421 (by decide +kernel) (by decide +kernel)
theorem kw_307 : (.methodLink R_Law 92 y_DR_serve : Cond) ∈ wg := wg_in 422 (by decide +kernel) (by decide +kernel)
theorem kw_308 : (.instanceMethod y_DR_serve : Cond) ∈ wg := wg_in 423 (by decide +kernel) (by decide +kernel)
theorem kw_309 : (.selects R_DR y_DR_serve y_DR_serve : Cond) ∈ wg := wg_in 424 (by decide +kernel) (by decide +kernel)
theorem kw_310 : (.code y_DR_serve b_DR_serve 5 (some .int) : Cond) ∈ wg := wg_in 425 (by decide +kernel) (by decide +kernel)
theorem kw_311 : (.methodLink R_DR 161 y_Planner_loadsInAll : Cond) ∈ wg := wg_in 426 (by decide +kernel) (by decide +kernel)
theorem kw_312 : (.instanceMethod y_Planner_loadsInAll : Cond) ∈ wg := wg_in 427 (by decide +kernel) (by decide +kernel)
theorem kw_313 : (.selects R_Planner y_Planner_loadsInAll y_Planner_loadsInAll : Cond) ∈ wg := wg_in 428 (by decide +kernel) (by decide +kernel)
theorem kw_314 : (.code y_Planner_loadsInAll b_Planner_loadsInAll 3 (some .int) : Cond) ∈ wg := wg_in 429 (by decide +kernel) (by decide +kernel)
theorem kw_315 : (.classLink R_Law 10 R_Mo : Cond) ∈ wg := wg_in 430 (by decide +kernel) (by decide +kernel)
theorem kw_316 : (.instantiable R_Mo 26 : Cond) ∈ wg := wg_in 431 (by decide +kernel) (by decide +kernel)
theorem kw_317 : (.methodLink R_Law 12 y_Mo_init : Cond) ∈ wg := wg_in 432 (by decide +kernel) (by decide +kernel)
theorem kw_318 : (.instanceMethod y_Mo_init : Cond) ∈ wg := wg_in 433 (by decide +kernel) (by decide +kernel)
theorem kw_319 : (.code y_Mo_init b_Mo_init 1 none : Cond) ∈ wg := wg_in 434 (by decide +kernel) (by decide +kernel)
theorem kw_320 : (.methodLink R_Mo 1 objectInit : Cond) ∈ wg := wg_in 435 (by decide +kernel) (by decide +kernel)
theorem kw_321 : (.constantLong R_Mo 29 (1000000000) : Cond) ∈ wg := wg_in 436 (by decide +kernel) (by decide +kernel)
theorem kw_322 : (.fieldLink R_Mo 7 "DigesterRatesModel" "shares" "[I" : Cond) ∈ wg := wg_in 437 (by decide +kernel) (by decide +kernel)
theorem kw_323 : (.fieldLink R_Mo 13 "DigesterRatesModel" "parts" "[J" : Cond) ∈ wg := wg_in 438 (by decide +kernel) (by decide +kernel)
theorem kw_324 : (.fieldLink R_Mo 87 "DigesterRatesModel" "feeds" "I" : Cond) ∈ wg := wg_in 439 (by decide +kernel) (by decide +kernel)
theorem kw_325 : (.fieldLink R_Mo 17 "DigesterRatesModel" "feedMinutes" "[I" : Cond) ∈ wg := wg_in 440 (by decide +kernel) (by decide +kernel)
theorem kw_326 : (.fieldLink R_Mo 20 "DigesterRatesModel" "feedKinds" "[I" : Cond) ∈ wg := wg_in 441 (by decide +kernel) (by decide +kernel)
theorem kw_327 : (.fieldLink R_Mo 23 "DigesterRatesModel" "feedGrams" "[I" : Cond) ∈ wg := wg_in 442 (by decide +kernel) (by decide +kernel)
theorem kw_328 : (.fieldLink R_Mo 26 "DigesterRatesModel" "rates" "[I" : Cond) ∈ wg := wg_in 443 (by decide +kernel) (by decide +kernel)
theorem kw_329 : (.fieldLink R_Mo 31 "DigesterRatesModel" "bound" "J" : Cond) ∈ wg := wg_in 444 (by decide +kernel) (by decide +kernel)
theorem kw_330 : (.fieldLink R_Mo 90 "DigesterRatesModel" "room" "J" : Cond) ∈ wg := wg_in 445 (by decide +kernel) (by decide +kernel)
theorem kw_331 : (.fieldLink R_Mo 93 "DigesterRatesModel" "users" "I" : Cond) ∈ wg := wg_in 446 (by decide +kernel) (by decide +kernel)
theorem kw_332 : (.fieldLink R_Mo 35 "DigesterRatesModel" "ranks" "[I" : Cond) ∈ wg := wg_in 447 (by decide +kernel) (by decide +kernel)
theorem kw_333 : (.fieldLink R_Mo 38 "DigesterRatesModel" "wants" "[I" : Cond) ∈ wg := wg_in 448 (by decide +kernel) (by decide +kernel)
theorem kw_334 : (.fieldLink R_Mo 41 "DigesterRatesModel" "given" "[J" : Cond) ∈ wg := wg_in 449 (by decide +kernel) (by decide +kernel)
theorem kw_335 : (.fieldLink R_Mo 79 "DigesterRatesModel" "next" "I" : Cond) ∈ wg := wg_in 450 (by decide +kernel) (by decide +kernel)
theorem kw_336 : (.fieldLink R_Mo 44 "DigesterRatesModel" "acids" "[J" : Cond) ∈ wg := wg_in 451 (by decide +kernel) (by decide +kernel)
theorem kw_337 : (.fieldLink R_Mo 76 "DigesterRatesModel" "cameIn" "J" : Cond) ∈ wg := wg_in 452 (by decide +kernel) (by decide +kernel)
theorem kw_338 : (.fieldLink R_Mo 106 "DigesterRatesModel" "gas" "J" : Cond) ∈ wg := wg_in 453 (by decide +kernel) (by decide +kernel)
theorem kw_339 : (.fieldLink R_Mo 112 "DigesterRatesModel" "givenAll" "J" : Cond) ∈ wg := wg_in 454 (by decide +kernel) (by decide +kernel)
theorem kw_340 : (.fieldLink R_Mo 115 "DigesterRatesModel" "flared" "J" : Cond) ∈ wg := wg_in 455 (by decide +kernel) (by decide +kernel)
theorem kw_341 : (.fieldLink R_Mo 109 "DigesterRatesModel" "store" "J" : Cond) ∈ wg := wg_in 456 (by decide +kernel) (by decide +kernel)
theorem kw_342 : (.fieldLink R_Mo 47 "DigesterRatesModel" "hasLoad" "[Z" : Cond) ∈ wg := wg_in 457 (by decide +kernel) (by decide +kernel)
theorem kw_343 : (.fieldLink R_Mo 51 "DigesterRatesModel" "loadGrams" "[I" : Cond) ∈ wg := wg_in 458 (by decide +kernel) (by decide +kernel)
theorem kw_344 : (.fieldLink R_Mo 54 "DigesterRatesModel" "loadCents" "[I" : Cond) ∈ wg := wg_in 459 (by decide +kernel) (by decide +kernel)
theorem kw_345 : (.fieldLink R_Mo 57 "DigesterRatesModel" "loadGas" "[I" : Cond) ∈ wg := wg_in 460 (by decide +kernel) (by decide +kernel)
theorem kw_346 : (.fieldLink R_Mo 127 "DigesterRatesModel" "hasPlan" "Z" : Cond) ∈ wg := wg_in 461 (by decide +kernel) (by decide +kernel)
theorem kw_347 : (.fieldLink R_Mo 131 "DigesterRatesModel" "plan" "I" : Cond) ∈ wg := wg_in 462 (by decide +kernel) (by decide +kernel)
theorem kw_348 : (.arrayClass .boolean : Cond) ∈ wg := wg_in 516 (by decide +kernel) (by decide +kernel)
theorem kw_349 : (.methodLink R_Law 17 y_Mo_kind : Cond) ∈ wg := wg_in 517 (by decide +kernel) (by decide +kernel)
theorem kw_350 : (.instanceMethod y_Mo_kind : Cond) ∈ wg := wg_in 518 (by decide +kernel) (by decide +kernel)
theorem kw_351 : (.selects R_Mo y_Mo_kind y_Mo_kind : Cond) ∈ wg := wg_in 519 (by decide +kernel) (by decide +kernel)
theorem kw_352 : (.code y_Mo_kind b_Mo_kind 5 (some .boolean) : Cond) ∈ wg := wg_in 520 (by decide +kernel) (by decide +kernel)
theorem kw_353 : (.methodLink R_Mo 60 y_Mo_isKind : Cond) ∈ wg := wg_in 521 (by decide +kernel) (by decide +kernel)
theorem kw_354 : (.static y_Mo_isKind : Cond) ∈ wg := wg_in 522 (by decide +kernel) (by decide +kernel)
theorem kw_355 : (.code y_Mo_isKind b_Mo_isKind 1 (some .boolean) : Cond) ∈ wg := wg_in 523 (by decide +kernel) (by decide +kernel)
theorem kw_356 : (.constantLong R_Mo 64 (2) : Cond) ∈ wg := wg_in 524 (by decide +kernel) (by decide +kernel)
theorem kw_357 : (.methodLink R_Mo 66 y_Mo_isIn : Cond) ∈ wg := wg_in 525 (by decide +kernel) (by decide +kernel)
theorem kw_358 : (.static y_Mo_isIn : Cond) ∈ wg := wg_in 526 (by decide +kernel) (by decide +kernel)
theorem kw_359 : (.code y_Mo_isIn b_Mo_isIn 6 (some .boolean) : Cond) ∈ wg := wg_in 527 (by decide +kernel) (by decide +kernel)
theorem kw_360 : (.constantLong R_Mo 70 (1000) : Cond) ∈ wg := wg_in 528 (by decide +kernel) (by decide +kernel)
theorem kw_361 : (.methodLink R_Law 22 y_Mo_start : Cond) ∈ wg := wg_in 529 (by decide +kernel) (by decide +kernel)
theorem kw_362 : (.instanceMethod y_Mo_start : Cond) ∈ wg := wg_in 530 (by decide +kernel) (by decide +kernel)
theorem kw_363 : (.selects R_Mo y_Mo_start y_Mo_start : Cond) ∈ wg := wg_in 531 (by decide +kernel) (by decide +kernel)
theorem kw_364 : (.code y_Mo_start b_Mo_start 3 (some .boolean) : Cond) ∈ wg := wg_in 532 (by decide +kernel) (by decide +kernel)
theorem kw_365 : (.constantLong R_Mo 72 (3) : Cond) ∈ wg := wg_in 533 (by decide +kernel) (by decide +kernel)
theorem kw_366 : (.constantLong R_Mo 74 (1000000) : Cond) ∈ wg := wg_in 534 (by decide +kernel) (by decide +kernel)
theorem kw_367 : (.methodLink R_Law 26 y_Mo_feed : Cond) ∈ wg := wg_in 535 (by decide +kernel) (by decide +kernel)
theorem kw_368 : (.instanceMethod y_Mo_feed : Cond) ∈ wg := wg_in 536 (by decide +kernel) (by decide +kernel)
theorem kw_369 : (.selects R_Mo y_Mo_feed y_Mo_feed : Cond) ∈ wg := wg_in 537 (by decide +kernel) (by decide +kernel)
theorem kw_370 : (.code y_Mo_feed b_Mo_feed 4 (some .boolean) : Cond) ∈ wg := wg_in 538 (by decide +kernel) (by decide +kernel)
theorem kw_371 : (.constantLong R_Mo 83 (9999) : Cond) ∈ wg := wg_in 539 (by decide +kernel) (by decide +kernel)
theorem kw_372 : (.constantLong R_Mo 85 (100000) : Cond) ∈ wg := wg_in 540 (by decide +kernel) (by decide +kernel)
theorem kw_373 : (.methodLink R_Law 30 y_Mo_rate : Cond) ∈ wg := wg_in 541 (by decide +kernel) (by decide +kernel)
theorem kw_374 : (.instanceMethod y_Mo_rate : Cond) ∈ wg := wg_in 542 (by decide +kernel) (by decide +kernel)
theorem kw_375 : (.selects R_Mo y_Mo_rate y_Mo_rate : Cond) ∈ wg := wg_in 543 (by decide +kernel) (by decide +kernel)
theorem kw_376 : (.code y_Mo_rate b_Mo_rate 3 (some .boolean) : Cond) ∈ wg := wg_in 544 (by decide +kernel) (by decide +kernel)
theorem kw_377 : (.methodLink R_Law 35 y_Mo_bound : Cond) ∈ wg := wg_in 545 (by decide +kernel) (by decide +kernel)
theorem kw_378 : (.instanceMethod y_Mo_bound : Cond) ∈ wg := wg_in 546 (by decide +kernel) (by decide +kernel)
theorem kw_379 : (.selects R_Mo y_Mo_bound y_Mo_bound : Cond) ∈ wg := wg_in 547 (by decide +kernel) (by decide +kernel)
theorem kw_380 : (.code y_Mo_bound b_Mo_bound 2 (some .boolean) : Cond) ∈ wg := wg_in 548 (by decide +kernel) (by decide +kernel)
theorem kw_381 : (.methodLink R_Law 39 y_Mo_room : Cond) ∈ wg := wg_in 549 (by decide +kernel) (by decide +kernel)
theorem kw_382 : (.instanceMethod y_Mo_room : Cond) ∈ wg := wg_in 550 (by decide +kernel) (by decide +kernel)
theorem kw_383 : (.selects R_Mo y_Mo_room y_Mo_room : Cond) ∈ wg := wg_in 551 (by decide +kernel) (by decide +kernel)
theorem kw_384 : (.code y_Mo_room b_Mo_room 2 (some .boolean) : Cond) ∈ wg := wg_in 552 (by decide +kernel) (by decide +kernel)
theorem kw_385 : (.methodLink R_Law 44 y_Mo_rank : Cond) ∈ wg := wg_in 553 (by decide +kernel) (by decide +kernel)
theorem kw_386 : (.instanceMethod y_Mo_rank : Cond) ∈ wg := wg_in 554 (by decide +kernel) (by decide +kernel)
theorem kw_387 : (.selects R_Mo y_Mo_rank y_Mo_rank : Cond) ∈ wg := wg_in 555 (by decide +kernel) (by decide +kernel)
theorem kw_388 : (.code y_Mo_rank b_Mo_rank 3 (some .int) : Cond) ∈ wg := wg_in 556 (by decide +kernel) (by decide +kernel)
theorem kw_389 : (.constantLong R_Mo 96 (9) : Cond) ∈ wg := wg_in 557 (by decide +kernel) (by decide +kernel)
theorem kw_390 : (.methodLink R_Law 49 y_Mo_run : Cond) ∈ wg := wg_in 558 (by decide +kernel) (by decide +kernel)
theorem kw_391 : (.instanceMethod y_Mo_run : Cond) ∈ wg := wg_in 559 (by decide +kernel) (by decide +kernel)
theorem kw_392 : (.selects R_Mo y_Mo_run y_Mo_run : Cond) ∈ wg := wg_in 560 (by decide +kernel) (by decide +kernel)
theorem kw_393 : (.code y_Mo_run b_Mo_run 3 (some .int) : Cond) ∈ wg := wg_in 561 (by decide +kernel) (by decide +kernel)
theorem kw_394 : (.methodLink R_Mo 118 y_Mo_minute : Cond) ∈ wg := wg_in 562 (by decide +kernel) (by decide +kernel)
theorem kw_395 : (.instanceMethod y_Mo_minute : Cond) ∈ wg := wg_in 564 (by decide +kernel) (by decide +kernel)
theorem kw_396 : (.code y_Mo_minute b_Mo_minute 15 none : Cond) ∈ wg := wg_in 565 (by decide +kernel) (by decide +kernel)
theorem kw_397 : (.methodLink R_Mo 98 y_Mo_comes : Cond) ∈ wg := wg_in 566 (by decide +kernel) (by decide +kernel)
theorem kw_398 : (.instanceMethod y_Mo_comes : Cond) ∈ wg := wg_in 568 (by decide +kernel) (by decide +kernel)
theorem kw_399 : (.code y_Mo_comes b_Mo_comes 9 none : Cond) ∈ wg := wg_in 569 (by decide +kernel) (by decide +kernel)
theorem kw_400 : (.methodLink R_Mo 102 y_Mo_steps : Cond) ∈ wg := wg_in 570 (by decide +kernel) (by decide +kernel)
theorem kw_401 : (.instanceMethod y_Mo_steps : Cond) ∈ wg := wg_in 572 (by decide +kernel) (by decide +kernel)
theorem kw_402 : (.code y_Mo_steps b_Mo_steps 4 (some .long) : Cond) ∈ wg := wg_in 573 (by decide +kernel) (by decide +kernel)
theorem kw_403 : (.methodLink R_Law 54 y_Mo_at : Cond) ∈ wg := wg_in 574 (by decide +kernel) (by decide +kernel)
theorem kw_404 : (.instanceMethod y_Mo_at : Cond) ∈ wg := wg_in 575 (by decide +kernel) (by decide +kernel)
theorem kw_405 : (.selects R_Mo y_Mo_at y_Mo_at : Cond) ∈ wg := wg_in 576 (by decide +kernel) (by decide +kernel)
theorem kw_406 : (.code y_Mo_at b_Mo_at 2 (some .long) : Cond) ∈ wg := wg_in 577 (by decide +kernel) (by decide +kernel)
theorem kw_407 : (.constantLong R_Mo 121 (-1) : Cond) ∈ wg := wg_in 578 (by decide +kernel) (by decide +kernel)
theorem kw_408 : (.methodLink R_Law 58 y_Mo_given : Cond) ∈ wg := wg_in 579 (by decide +kernel) (by decide +kernel)
theorem kw_409 : (.instanceMethod y_Mo_given : Cond) ∈ wg := wg_in 580 (by decide +kernel) (by decide +kernel)
theorem kw_410 : (.selects R_Mo y_Mo_given y_Mo_given : Cond) ∈ wg := wg_in 581 (by decide +kernel) (by decide +kernel)
theorem kw_411 : (.code y_Mo_given b_Mo_given 2 (some .long) : Cond) ∈ wg := wg_in 582 (by decide +kernel) (by decide +kernel)
theorem kw_412 : (.methodLink R_Law 62 y_Mo_gone : Cond) ∈ wg := wg_in 583 (by decide +kernel) (by decide +kernel)
theorem kw_413 : (.instanceMethod y_Mo_gone : Cond) ∈ wg := wg_in 584 (by decide +kernel) (by decide +kernel)
theorem kw_414 : (.selects R_Mo y_Mo_gone y_Mo_gone : Cond) ∈ wg := wg_in 585 (by decide +kernel) (by decide +kernel)
theorem kw_415 : (.code y_Mo_gone b_Mo_gone 2 (some .long) : Cond) ∈ wg := wg_in 586 (by decide +kernel) (by decide +kernel)
theorem kw_416 : (.methodLink R_Law 66 y_Mo_balance : Cond) ∈ wg := wg_in 587 (by decide +kernel) (by decide +kernel)
theorem kw_417 : (.instanceMethod y_Mo_balance : Cond) ∈ wg := wg_in 588 (by decide +kernel) (by decide +kernel)
theorem kw_418 : (.selects R_Mo y_Mo_balance y_Mo_balance : Cond) ∈ wg := wg_in 589 (by decide +kernel) (by decide +kernel)
theorem kw_419 : (.code y_Mo_balance b_Mo_balance 2 (some .long) : Cond) ∈ wg := wg_in 590 (by decide +kernel) (by decide +kernel)
theorem kw_420 : (.methodLink R_Law 71 y_Mo_acid : Cond) ∈ wg := wg_in 591 (by decide +kernel) (by decide +kernel)
theorem kw_421 : (.instanceMethod y_Mo_acid : Cond) ∈ wg := wg_in 592 (by decide +kernel) (by decide +kernel)
theorem kw_422 : (.selects R_Mo y_Mo_acid y_Mo_acid : Cond) ∈ wg := wg_in 593 (by decide +kernel) (by decide +kernel)
theorem kw_423 : (.code y_Mo_acid b_Mo_acid 8 (some .int) : Cond) ∈ wg := wg_in 594 (by decide +kernel) (by decide +kernel)
theorem kw_424 : (.methodLink R_Law 78 y_Mo_sour : Cond) ∈ wg := wg_in 595 (by decide +kernel) (by decide +kernel)
theorem kw_425 : (.instanceMethod y_Mo_sour : Cond) ∈ wg := wg_in 596 (by decide +kernel) (by decide +kernel)
theorem kw_426 : (.selects R_Mo y_Mo_sour y_Mo_sour : Cond) ∈ wg := wg_in 597 (by decide +kernel) (by decide +kernel)
theorem kw_427 : (.code y_Mo_sour b_Mo_sour 4 (some .int) : Cond) ∈ wg := wg_in 598 (by decide +kernel) (by decide +kernel)
theorem kw_428 : (.methodLink R_Law 83 y_Mo_load : Cond) ∈ wg := wg_in 599 (by decide +kernel) (by decide +kernel)
theorem kw_429 : (.instanceMethod y_Mo_load : Cond) ∈ wg := wg_in 600 (by decide +kernel) (by decide +kernel)
theorem kw_430 : (.selects R_Mo y_Mo_load y_Mo_load : Cond) ∈ wg := wg_in 601 (by decide +kernel) (by decide +kernel)
theorem kw_431 : (.code y_Mo_load b_Mo_load 5 (some .boolean) : Cond) ∈ wg := wg_in 602 (by decide +kernel) (by decide +kernel)
theorem kw_432 : (.methodLink R_Law 87 y_Mo_plan : Cond) ∈ wg := wg_in 603 (by decide +kernel) (by decide +kernel)
theorem kw_433 : (.instanceMethod y_Mo_plan : Cond) ∈ wg := wg_in 604 (by decide +kernel) (by decide +kernel)
theorem kw_434 : (.selects R_Mo y_Mo_plan y_Mo_plan : Cond) ∈ wg := wg_in 605 (by decide +kernel) (by decide +kernel)
theorem kw_435 : (.code y_Mo_plan b_Mo_plan 10 (some .int) : Cond) ∈ wg := wg_in 606 (by decide +kernel) (by decide +kernel)
theorem kw_436 : (.methodLink R_Mo 123 y_Mo_timesOf : Cond) ∈ wg := wg_in 607 (by decide +kernel) (by decide +kernel)
theorem kw_437 : (.static y_Mo_timesOf : Cond) ∈ wg := wg_in 608 (by decide +kernel) (by decide +kernel)
theorem kw_438 : (.code y_Mo_timesOf b_Mo_timesOf 2 (some .int) : Cond) ∈ wg := wg_in 609 (by decide +kernel) (by decide +kernel)
theorem kw_439 : (.methodLink R_Law 91 y_Mo_planned : Cond) ∈ wg := wg_in 610 (by decide +kernel) (by decide +kernel)
theorem kw_440 : (.instanceMethod y_Mo_planned : Cond) ∈ wg := wg_in 611 (by decide +kernel) (by decide +kernel)
theorem kw_441 : (.selects R_Mo y_Mo_planned y_Mo_planned : Cond) ∈ wg := wg_in 612 (by decide +kernel) (by decide +kernel)
theorem kw_442 : (.code y_Mo_planned b_Mo_planned 2 (some .int) : Cond) ∈ wg := wg_in 613 (by decide +kernel) (by decide +kernel)
theorem kw_443 : (.methodLink R_Law 95 y_Mo_serve : Cond) ∈ wg := wg_in 614 (by decide +kernel) (by decide +kernel)
theorem kw_444 : (.instanceMethod y_Mo_serve : Cond) ∈ wg := wg_in 615 (by decide +kernel) (by decide +kernel)
theorem kw_445 : (.selects R_Mo y_Mo_serve y_Mo_serve : Cond) ∈ wg := wg_in 616 (by decide +kernel) (by decide +kernel)
theorem kw_446 : (.code y_Mo_serve b_Mo_serve 5 (some .int) : Cond) ∈ wg := wg_in 617 (by decide +kernel) (by decide +kernel)
theorem kw_447 : (.constantLong R_Law 72 (4294967295) : Cond) ∈ wg := wg_in 618 (by decide +kernel) (by decide +kernel)
def nw_all : List Cond := [.methodLinkNest R_DR 9 y_Shares_init R_DR, .methodLinkNest R_DR 18 y_Told_init R_DR, .fieldLinkNest R_DR 181 "DigesterRates$Told" "minutes" "[I" R_DR, .fieldLinkNest R_DR 184 "DigesterRates$Told" "kinds" "[I" R_DR, .fieldLinkNest R_DR 187 "DigesterRates$Told" "grams" "[I" R_DR, .fieldLinkNest R_DR 178 "DigesterRates$Told" "count" "I" R_DR, .methodLinkNest R_DR 25 y_Tank_init R_DR, .fieldLinkNest R_DR 70 "DigesterRates$Tank" "grams" "[J" R_DR, .fieldLinkNest R_DR 88 "DigesterRates$Tank" "rates" "[I" R_DR, .fieldLinkNest R_DR 93 "DigesterRates$Tank" "slowingBound" "I" R_DR, .fieldLinkNest R_DR 118 "DigesterRates$Tank" "cameIn" "J" R_DR, .fieldLinkNest R_DR 122 "DigesterRates$Tank" "gasMade" "J" R_DR, .methodLinkNest R_DR 32 y_GasStore_init R_DR, .fieldLinkNest R_DR 115 "DigesterRates$GasStore" "givenTo" "[J" R_DR, .fieldLinkNest R_DR 112 "DigesterRates$GasStore" "users" "I" R_DR, .fieldLinkNest R_DR 96 "DigesterRates$GasStore" "most" "I" R_DR, .fieldLinkNest R_DR 131 "DigesterRates$GasStore" "held" "J" R_DR, .fieldLinkNest R_DR 125 "DigesterRates$GasStore" "givenInAll" "J" R_DR, .fieldLinkNest R_DR 128 "DigesterRates$GasStore" "flared" "J" R_DR, .methodLinkNest R_DR 39 y_AcidPeaks_init R_DR, .methodLinkNest R_DR 46 y_Planner_init R_DR, .fieldLinkNest R_DR 164 "DigesterRates$Planner" "grams" "[I" R_DR, .fieldLinkNest R_DR 158 "DigesterRates$Planner" "times" "[I" R_DR, .fieldLinkNest R_DR 154 "DigesterRates$Planner" "found" "Z" R_DR, .methodLinkNest R_Tank 41 y_DR_millionthsOf R_DR, .methodLinkNest R_Tank 45 y_DR_thousandthsOf R_DR]
theorem nk_0 : (.methodLinkNest R_DR 9 y_Shares_init R_DR : Cond) ∈ nw_all := List.mem_of_getElem? (i := 0) rfl
theorem nk_1 : (.methodLinkNest R_DR 18 y_Told_init R_DR : Cond) ∈ nw_all := List.mem_of_getElem? (i := 1) rfl
theorem nk_2 : (.fieldLinkNest R_DR 181 "DigesterRates$Told" "minutes" "[I" R_DR : Cond) ∈ nw_all := List.mem_of_getElem? (i := 2) rfl
theorem nk_3 : (.fieldLinkNest R_DR 184 "DigesterRates$Told" "kinds" "[I" R_DR : Cond) ∈ nw_all := List.mem_of_getElem? (i := 3) rfl
theorem nk_4 : (.fieldLinkNest R_DR 187 "DigesterRates$Told" "grams" "[I" R_DR : Cond) ∈ nw_all := List.mem_of_getElem? (i := 4) rfl
theorem nk_5 : (.fieldLinkNest R_DR 178 "DigesterRates$Told" "count" "I" R_DR : Cond) ∈ nw_all := List.mem_of_getElem? (i := 5) rfl
theorem nk_6 : (.methodLinkNest R_DR 25 y_Tank_init R_DR : Cond) ∈ nw_all := List.mem_of_getElem? (i := 6) rfl
theorem nk_7 : (.fieldLinkNest R_DR 70 "DigesterRates$Tank" "grams" "[J" R_DR : Cond) ∈ nw_all := List.mem_of_getElem? (i := 7) rfl
theorem nk_8 : (.fieldLinkNest R_DR 88 "DigesterRates$Tank" "rates" "[I" R_DR : Cond) ∈ nw_all := List.mem_of_getElem? (i := 8) rfl
theorem nk_9 : (.fieldLinkNest R_DR 93 "DigesterRates$Tank" "slowingBound" "I" R_DR : Cond) ∈ nw_all := List.mem_of_getElem? (i := 9) rfl
theorem nk_10 : (.fieldLinkNest R_DR 118 "DigesterRates$Tank" "cameIn" "J" R_DR : Cond) ∈ nw_all := List.mem_of_getElem? (i := 10) rfl
theorem nk_11 : (.fieldLinkNest R_DR 122 "DigesterRates$Tank" "gasMade" "J" R_DR : Cond) ∈ nw_all := List.mem_of_getElem? (i := 11) rfl
theorem nk_12 : (.methodLinkNest R_DR 32 y_GasStore_init R_DR : Cond) ∈ nw_all := List.mem_of_getElem? (i := 12) rfl
theorem nk_13 : (.fieldLinkNest R_DR 115 "DigesterRates$GasStore" "givenTo" "[J" R_DR : Cond) ∈ nw_all := List.mem_of_getElem? (i := 13) rfl
theorem nk_14 : (.fieldLinkNest R_DR 112 "DigesterRates$GasStore" "users" "I" R_DR : Cond) ∈ nw_all := List.mem_of_getElem? (i := 14) rfl
theorem nk_15 : (.fieldLinkNest R_DR 96 "DigesterRates$GasStore" "most" "I" R_DR : Cond) ∈ nw_all := List.mem_of_getElem? (i := 15) rfl
theorem nk_16 : (.fieldLinkNest R_DR 131 "DigesterRates$GasStore" "held" "J" R_DR : Cond) ∈ nw_all := List.mem_of_getElem? (i := 16) rfl
theorem nk_17 : (.fieldLinkNest R_DR 125 "DigesterRates$GasStore" "givenInAll" "J" R_DR : Cond) ∈ nw_all := List.mem_of_getElem? (i := 17) rfl
theorem nk_18 : (.fieldLinkNest R_DR 128 "DigesterRates$GasStore" "flared" "J" R_DR : Cond) ∈ nw_all := List.mem_of_getElem? (i := 18) rfl
theorem nk_19 : (.methodLinkNest R_DR 39 y_AcidPeaks_init R_DR : Cond) ∈ nw_all := List.mem_of_getElem? (i := 19) rfl
theorem nk_20 : (.methodLinkNest R_DR 46 y_Planner_init R_DR : Cond) ∈ nw_all := List.mem_of_getElem? (i := 20) rfl
theorem nk_21 : (.fieldLinkNest R_DR 164 "DigesterRates$Planner" "grams" "[I" R_DR : Cond) ∈ nw_all := List.mem_of_getElem? (i := 21) rfl
theorem nk_22 : (.fieldLinkNest R_DR 158 "DigesterRates$Planner" "times" "[I" R_DR : Cond) ∈ nw_all := List.mem_of_getElem? (i := 22) rfl
theorem nk_23 : (.fieldLinkNest R_DR 154 "DigesterRates$Planner" "found" "Z" R_DR : Cond) ∈ nw_all := List.mem_of_getElem? (i := 23) rfl
theorem nk_24 : (.methodLinkNest R_Tank 41 y_DR_millionthsOf R_DR : Cond) ∈ nw_all := List.mem_of_getElem? (i := 24) rfl
theorem nk_25 : (.methodLinkNest R_Tank 45 y_DR_thousandthsOf R_DR : Cond) ∈ nw_all := List.mem_of_getElem? (i := 25) rfl
theorem nw_tbl : ∀ w ∈ nw_all, w ∈ lw_tbl := by
  intro w hw
  obtain ⟨k, hk⟩ := List.getElem?_of_mem hw
  match k, hk with
  | 0, hk => cases hk; exact List.mem_of_getElem? (i := 35) (by decide +kernel)
  | 1, hk => cases hk; exact List.mem_of_getElem? (i := 46) (by decide +kernel)
  | 2, hk => cases hk; exact List.mem_of_getElem? (i := 51) (by decide +kernel)
  | 3, hk => cases hk; exact List.mem_of_getElem? (i := 53) (by decide +kernel)
  | 4, hk => cases hk; exact List.mem_of_getElem? (i := 55) (by decide +kernel)
  | 5, hk => cases hk; exact List.mem_of_getElem? (i := 57) (by decide +kernel)
  | 6, hk => cases hk; exact List.mem_of_getElem? (i := 69) (by decide +kernel)
  | 7, hk => cases hk; exact List.mem_of_getElem? (i := 75) (by decide +kernel)
  | 8, hk => cases hk; exact List.mem_of_getElem? (i := 77) (by decide +kernel)
  | 9, hk => cases hk; exact List.mem_of_getElem? (i := 79) (by decide +kernel)
  | 10, hk => cases hk; exact List.mem_of_getElem? (i := 81) (by decide +kernel)
  | 11, hk => cases hk; exact List.mem_of_getElem? (i := 83) (by decide +kernel)
  | 12, hk => cases hk; exact List.mem_of_getElem? (i := 98) (by decide +kernel)
  | 13, hk => cases hk; exact List.mem_of_getElem? (i := 105) (by decide +kernel)
  | 14, hk => cases hk; exact List.mem_of_getElem? (i := 108) (by decide +kernel)
  | 15, hk => cases hk; exact List.mem_of_getElem? (i := 110) (by decide +kernel)
  | 16, hk => cases hk; exact List.mem_of_getElem? (i := 112) (by decide +kernel)
  | 17, hk => cases hk; exact List.mem_of_getElem? (i := 114) (by decide +kernel)
  | 18, hk => cases hk; exact List.mem_of_getElem? (i := 116) (by decide +kernel)
  | 19, hk => cases hk; exact List.mem_of_getElem? (i := 138) (by decide +kernel)
  | 20, hk => cases hk; exact List.mem_of_getElem? (i := 151) (by decide +kernel)
  | 21, hk => cases hk; exact List.mem_of_getElem? (i := 156) (by decide +kernel)
  | 22, hk => cases hk; exact List.mem_of_getElem? (i := 160) (by decide +kernel)
  | 23, hk => cases hk; exact List.mem_of_getElem? (i := 162) (by decide +kernel)
  | 24, hk => cases hk; exact List.mem_of_getElem? (i := 320) (by decide +kernel)
  | 25, hk => cases hk; exact List.mem_of_getElem? (i := 324) (by decide +kernel)
  | k + 26, hk => simp [nw_all] at hk
