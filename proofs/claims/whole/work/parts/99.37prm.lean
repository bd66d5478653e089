/-! ===== the start: the premises that are used, by their places (positions printed) ===== -/
section Prm
/-- the Statement's premises, one by one -/
def s_P : List Cond := flatC (Jvm.Cond.and given_1 narrow_1)
def sV (z : String × Nat × String) : Term := .field (.string z.1 z.2.1) "java/lang/String" "value" "[B"
def sE (t : Term) (w : List Nat) : List Cond := (List.range w.length).map (fun j => .eq (.elem t (.int (Int32.ofNat j))) (.int (Int32.ofNat (w.getD j 0))))
/-- what is said of a String constant -/
def sW (z : String × Nat × String) : List Cond := .exactly (.string z.1 z.2.1) "java/lang/String" :: .eq (.field (.string z.1 z.2.1) "java/lang/String" "coder" "B") (.int 0) :: .arrayOf (sV z) .byte :: .eq (.length (sV z)) (.int (Int32.ofNat (wd z.2.2).length)) :: sE (sV z) (wd z.2.2)
def sOk (P : List Cond) (q : (String × Nat × String) × Nat) : Bool := decide ((P.drop q.2).take (sW q.1).length = sW q.1)
def dOn : Term := .static "java/lang/Integer" "DigitOnes" "[B"
def dTe : Term := .static "java/lang/Integer" "DigitTens" "[B"
def dW (t : Term) (f : Nat → Nat) : List Cond := .arrayOf t .byte :: .eq (.length t) (.int (Int32.ofNat 100)) :: sE t ((List.range 100).map f)
theorem s_app {α : Type} {p : α → Prop} {a b : List α} (ha : ∀ x ∈ a, p x) (hb : ∀ x ∈ b, p x) : ∀ x ∈ a ++ b, p x := fun x hx => (List.mem_append.mp hx).elim (ha x) (hb x)
theorem s_sub {P ws : List Cond} {p : Nat} (h : (P.drop p).take ws.length = ws) : ∀ w ∈ ws, w ∈ P := fun w hw => by
  rw [← h] at hw
  exact List.mem_of_mem_drop (List.mem_of_mem_take hw)
def sA_0 : List ((String × Nat × String) × Nat) := [(("PacketScheduler$QueryReader", 23, "or"), 780), (("PacketScheduler$QueryReader", 43, "and"), 773), (("PacketScheduler$QueryReader", 48, "not"), 679), (("PacketScheduler$QueryReader", 92, "packet"), 686), (("PacketScheduler$QueryReader", 94, "flow"), 696), (("PacketScheduler$QueryReader", 96, "size"), 705), (("PacketScheduler$QueryReader", 98, "state"), 713)]
theorem sK_0 : ∀ q ∈ sA_0, sOk s_P q = true := by decide +kernel
def sB_0 : List ((String × Nat × String) × Nat) := [(("PacketScheduler$QueryReader", 23, "or"), 1422), (("PacketScheduler$QueryReader", 43, "and"), 1417), (("PacketScheduler$QueryReader", 48, "not"), 1353), (("PacketScheduler$QueryReader", 92, "packet"), 1366), (("PacketScheduler$QueryReader", 94, "flow"), 1367), (("PacketScheduler$QueryReader", 96, "size"), 1368), (("PacketScheduler$QueryReader", 98, "state"), 1369)]
theorem sR_0 : ∀ q ∈ sB_0, lw_tbl[q.2]? = some (.stringRef q.1.1 q.1.2.1 q.1.2.2) := by decide +kernel
def sA_1 : List ((String × Nat × String) × Nat) := [(("PacketScheduler$QueryReader", 100, "tries"), 722), (("PacketScheduler$QueryReader", 102, "arrival"), 731), (("PacketScheduler$QueryReader", 104, "source"), 742), (("PacketScheduler$QueryReader", 106, "target"), 753), (("PacketScheduler$QueryReader", 108, "port"), 764), (("PacketScheduler$Setup", 60, "flow"), 274), (("PacketScheduler$Setup", 69, "rule"), 318)]
theorem sK_1 : ∀ q ∈ sA_1, sOk s_P q = true := by decide +kernel
def sB_1 : List ((String × Nat × String) × Nat) := [(("PacketScheduler$QueryReader", 100, "tries"), 1370), (("PacketScheduler$QueryReader", 102, "arrival"), 1371), (("PacketScheduler$QueryReader", 104, "source"), 1372), (("PacketScheduler$QueryReader", 106, "target"), 1373), (("PacketScheduler$QueryReader", 108, "port"), 1374), (("PacketScheduler$Setup", 60, "flow"), 714), (("PacketScheduler$Setup", 69, "rule"), 789)]
theorem sR_1 : ∀ q ∈ sB_1, lw_tbl[q.2]? = some (.stringRef q.1.1 q.1.2.1 q.1.2.2) := by decide +kernel
def sA_2 : List ((String × Nat × String) × Nat) := [(("PacketScheduler$Setup", 74, "link"), 360), (("PacketScheduler$Setup", 80, "delay"), 368), (("PacketScheduler$Setup", 81, "timeout"), 377), (("PacketScheduler$Setup", 107, "burst"), 282), (("PacketScheduler$Setup", 109, "retries"), 291), (("PacketScheduler$Setup", 111, "loss"), 302), (("PacketScheduler$Setup", 113, "late"), 310)]
theorem sK_2 : ∀ q ∈ sA_2, sOk s_P q = true := by decide +kernel
def sB_2 : List ((String × Nat × String) × Nat) := [(("PacketScheduler$Setup", 74, "link"), 807), (("PacketScheduler$Setup", 80, "delay"), 812), (("PacketScheduler$Setup", 81, "timeout"), 813), (("PacketScheduler$Setup", 107, "burst"), 777), (("PacketScheduler$Setup", 109, "retries"), 778), (("PacketScheduler$Setup", 111, "loss"), 779), (("PacketScheduler$Setup", 113, "late"), 780)]
theorem sR_2 : ∀ q ∈ sB_2, lw_tbl[q.2]? = some (.stringRef q.1.1 q.1.2.1 q.1.2.2) := by decide +kernel
def sA_3 : List ((String × Nat × String) × Nat) := [(("PacketScheduler$Setup", 115, "to"), 326), (("PacketScheduler$Setup", 124, "target"), 332), (("PacketScheduler$Setup", 126, "port"), 342), (("PacketScheduler$Setup", 128, "source"), 350), (("PacketScheduler", 153, "the index is negative"), 442), (("PacketScheduler", 199, "the flows are the same or the age is negative"), 527), (("PacketScheduler", 238, " f"), 618)]
theorem sK_3 : ∀ q ∈ sA_3, sOk s_P q = true := by decide +kernel
def sB_3 : List ((String × Nat × String) × Nat) := [(("PacketScheduler$Setup", 115, "to"), 794), (("PacketScheduler$Setup", 124, "target"), 799), (("PacketScheduler$Setup", 126, "port"), 800), (("PacketScheduler$Setup", 128, "source"), 801), (("PacketScheduler", 153, "the index is negative"), 891), (("PacketScheduler", 199, "the flows are the same or the age is negative"), 1051), (("PacketScheduler", 238, " f"), 1322)]
theorem sR_3 : ∀ q ∈ sB_3, lw_tbl[q.2]? = some (.stringRef q.1.1 q.1.2.1 q.1.2.2) := by decide +kernel
def sA_4 : List ((String × Nat × String) × Nat) := [(("PacketScheduler", 243, "queued"), 624), (("PacketScheduler", 245, "flying"), 634), (("PacketScheduler", 247, "dropped"), 644), (("PacketScheduler", 249, "at "), 655), (("PacketScheduler", 270, "many"), 662), (("PacketScheduler", 276, "first"), 670), (("PacketScheduler", 300, "a parameter is out of range"), 243)]
theorem sK_4 : ∀ q ∈ sA_4, sOk s_P q = true := by decide +kernel
def sB_4 : List ((String × Nat × String) × Nat) := [(("PacketScheduler", 243, "queued"), 1324), (("PacketScheduler", 245, "flying"), 1325), (("PacketScheduler", 247, "dropped"), 1326), (("PacketScheduler", 249, "at "), 1327), (("PacketScheduler", 270, "many"), 1336), (("PacketScheduler", 276, "first"), 1338), (("PacketScheduler", 300, "a parameter is out of range"), 663)]
theorem sR_4 : ∀ q ∈ sB_4, lw_tbl[q.2]? = some (.stringRef q.1.1 q.1.2.1 q.1.2.2) := by decide +kernel
def sA_5 : List ((String × Nat × String) × Nat) := [(("PacketScheduler", 302, "there is no such property"), 413), (("PacketScheduler", 304, "there is no such flow"), 388), (("PacketScheduler", 306, "there is no such packet"), 467), (("PacketScheduler", 308, "there is no such transmission"), 494), (("PacketSchedulerModel", 51, "packet"), 786), (("PacketSchedulerModel", 53, "flow"), 797), (("PacketSchedulerModel", 55, "size"), 807)]
theorem sK_5 : ∀ q ∈ sA_5, sOk s_P q = true := by decide +kernel
def sB_5 : List ((String × Nat × String) × Nat) := [(("PacketScheduler", 302, "there is no such property"), 868), (("PacketScheduler", 304, "there is no such flow"), 858), (("PacketScheduler", 306, "there is no such packet"), 907), (("PacketScheduler", 308, "there is no such transmission"), 919), (("PacketSchedulerModel", 51, "packet"), 1453), (("PacketSchedulerModel", 53, "flow"), 1454), (("PacketSchedulerModel", 55, "size"), 1455)]
theorem sR_5 : ∀ q ∈ sB_5, lw_tbl[q.2]? = some (.stringRef q.1.1 q.1.2.1 q.1.2.2) := by decide +kernel
def sA_6 : List ((String × Nat × String) × Nat) := [(("PacketSchedulerModel", 57, "state"), 816), (("PacketSchedulerModel", 59, "tries"), 826), (("PacketSchedulerModel", 61, "arrival"), 836), (("PacketSchedulerModel", 63, "source"), 848), (("PacketSchedulerModel", 65, "target"), 860), (("PacketSchedulerModel", 67, "port"), 872), (("PacketSchedulerModel", 303, "p"), 882)]
theorem sK_6 : ∀ q ∈ sA_6, sOk s_P q = true := by decide +kernel
def sB_6 : List ((String × Nat × String) × Nat) := [(("PacketSchedulerModel", 57, "state"), 1456), (("PacketSchedulerModel", 59, "tries"), 1457), (("PacketSchedulerModel", 61, "arrival"), 1458), (("PacketSchedulerModel", 63, "source"), 1459), (("PacketSchedulerModel", 65, "target"), 1460), (("PacketSchedulerModel", 67, "port"), 1461), (("PacketSchedulerModel", 303, "p"), 1889)]
theorem sR_6 : ∀ q ∈ sB_6, lw_tbl[q.2]? = some (.stringRef q.1.1 q.1.2.1 q.1.2.2) := by decide +kernel
def sA_7 : List ((String × Nat × String) × Nat) := [(("PacketSchedulerModel", 309, " f"), 887), (("PacketSchedulerModel", 311, " "), 894), (("PacketSchedulerModel", 313, " queued"), 899), (("PacketSchedulerModel", 315, " flying"), 910), (("PacketSchedulerModel", 317, " dropped"), 921), (("PacketSchedulerModel", 319, " at "), 933), (("PacketSchedulerModel", 379, "burst"), 941)]
theorem sK_7 : ∀ q ∈ sA_7, sOk s_P q = true := by decide +kernel
def sB_7 : List ((String × Nat × String) × Nat) := [(("PacketSchedulerModel", 309, " f"), 1900), (("PacketSchedulerModel", 311, " "), 1901), (("PacketSchedulerModel", 313, " queued"), 1902), (("PacketSchedulerModel", 315, " flying"), 1903), (("PacketSchedulerModel", 317, " dropped"), 1904), (("PacketSchedulerModel", 319, " at "), 1905), (("PacketSchedulerModel", 379, "burst"), 1983)]
theorem sR_7 : ∀ q ∈ sB_7, lw_tbl[q.2]? = some (.stringRef q.1.1 q.1.2.1 q.1.2.2) := by decide +kernel
def sA_8 : List ((String × Nat × String) × Nat) := [(("PacketSchedulerModel", 387, "retries"), 951), (("PacketSchedulerModel", 389, "loss"), 963), (("PacketSchedulerModel", 391, "late"), 972), (("PacketSchedulerModel", 400, "to"), 990), (("PacketSchedulerModel", 408, "rule"), 981), (("PacketSchedulerModel", 413, "link"), 997), (("PacketSchedulerModel", 415, "delay"), 1006)]
theorem sK_8 : ∀ q ∈ sA_8, sOk s_P q = true := by decide +kernel
def sB_8 : List ((String × Nat × String) × Nat) := [(("PacketSchedulerModel", 387, "retries"), 1988), (("PacketSchedulerModel", 389, "loss"), 1989), (("PacketSchedulerModel", 391, "late"), 1990), (("PacketSchedulerModel", 400, "to"), 2000), (("PacketSchedulerModel", 408, "rule"), 1991), (("PacketSchedulerModel", 413, "link"), 2005), (("PacketSchedulerModel", 415, "delay"), 2006)]
theorem sR_8 : ∀ q ∈ sB_8, lw_tbl[q.2]? = some (.stringRef q.1.1 q.1.2.1 q.1.2.2) := by decide +kernel
def sA_9 : List ((String × Nat × String) × Nat) := [(("PacketSchedulerModel", 417, "timeout"), 1016), (("PacketSchedulerModel", 438, "not"), 1047), (("PacketSchedulerModel", 452, "and"), 1055), (("PacketSchedulerModel", 457, "or"), 1063), (("PacketSchedulerModel", 465, "first"), 1028), (("PacketSchedulerModel", 467, "many"), 1038)]
theorem sK_9 : ∀ q ∈ sA_9, sOk s_P q = true := by decide +kernel
def sB_9 : List ((String × Nat × String) × Nat) := [(("PacketSchedulerModel", 417, "timeout"), 2007), (("PacketSchedulerModel", 438, "not"), 2038), (("PacketSchedulerModel", 452, "and"), 2052), (("PacketSchedulerModel", 457, "or"), 2053), (("PacketSchedulerModel", 465, "first"), 2024), (("PacketSchedulerModel", 467, "many"), 2025)]
theorem sR_9 : ∀ q ∈ sB_9, lw_tbl[q.2]? = some (.stringRef q.1.1 q.1.2.1 q.1.2.2) := by decide +kernel
theorem sA_eq : j_strs = (sA_0 ++ sA_1 ++ sA_2 ++ sA_3 ++ sA_4 ++ sA_5 ++ sA_6 ++ sA_7 ++ sA_8 ++ sA_9).map Prod.fst := rfl
theorem sB_eq : j_strs = (sB_0 ++ sB_1 ++ sB_2 ++ sB_3 ++ sB_4 ++ sB_5 ++ sB_6 ++ sB_7 ++ sB_8 ++ sB_9).map Prod.fst := rfl
theorem s_in : ∀ z ∈ j_strs, ∀ w ∈ sW z, w ∈ s_P := by
  intro z hz
  rw [sA_eq] at hz
  obtain ⟨q, hq, rfl⟩ := List.mem_map.mp hz
  have h := (s_app (s_app (s_app (s_app (s_app (s_app (s_app (s_app (s_app sK_0 sK_1) sK_2) sK_3) sK_4) sK_5) sK_6) sK_7) sK_8) sK_9) q hq
  exact s_sub (of_decide_eq_true h)
theorem s_rf : ∀ z ∈ j_strs, Cond.stringRef z.1 z.2.1 z.2.2 ∈ lw_tbl := by
  intro z hz
  rw [sB_eq] at hz
  obtain ⟨q, hq, rfl⟩ := List.mem_map.mp hz
  have h := (s_app (s_app (s_app (s_app (s_app (s_app (s_app (s_app (s_app sR_0 sR_1) sR_2) sR_3) sR_4) sR_5) sR_6) sR_7) sR_8) sR_9) q hq
  exact List.mem_of_getElem? h
theorem s_wd : ∀ z ∈ j_strs, (wd z.2.2).length < 1000 ∧ ∀ c ∈ wd z.2.2, c < 128 := by decide +kernel
theorem d_on : ∀ w ∈ dW dOn (fun k => 48 + k % 10), w ∈ s_P := s_sub (p := 12) (by decide +kernel)
theorem d_te : ∀ w ∈ dW dTe (fun k => 48 + k / 10), w ∈ s_P := s_sub (p := 115) (by decide +kernel)
theorem p_nc : Cond.not (.castable "java/lang/IllegalArgumentException" "java/util/NoSuchElementException") ∈ s_P := List.mem_of_getElem? (i := 240) (by decide +kernel)
theorem p_cs : Cond.eq (.static "java/lang/String" "COMPACT_STRINGS" "Z") (.int 1) ∈ s_P := List.mem_of_getElem? (i := 4) (by decide +kernel)
theorem p_si : Cond.isRef (.static "jdk/internal/util/Preconditions" "SIOOBE_FORMATTER" "Ljava/util/function/BiFunction;") ∈ s_P := List.mem_of_getElem? (i := 5) (by decide +kernel)
theorem p_us : Cond.isRef (.static Bundle.tN "UNASSIGNED_STACK" Bundle.steD) ∈ s_P := List.mem_of_getElem? (i := 9) (by decide +kernel)
theorem p_su : Cond.isRef (.static Bundle.tN "SUPPRESSED_SENTINEL" Bundle.listD) ∈ s_P := List.mem_of_getElem? (i := 10) (by decide +kernel)
theorem q_us : Cond.laysStatic Bundle.tN "UNASSIGNED_STACK" Bundle.steD ∈ lw_tbl := List.mem_of_getElem? (i := 650) (by decide +kernel)
theorem q_su : Cond.laysStatic Bundle.tN "SUPPRESSED_SENTINEL" Bundle.listD ∈ lw_tbl := List.mem_of_getElem? (i := 652) (by decide +kernel)
theorem q_th : Cond.initialized Bundle.tN ∈ lw_tbl := List.mem_of_getElem? (i := 97) (by decide +kernel)
theorem q_cs : Cond.laysStatic "java/lang/String" "COMPACT_STRINGS" "Z" ∈ lw_tbl := List.mem_of_getElem? (i := 369) (by decide +kernel)
theorem q_st : Cond.initialized "java/lang/String" ∈ lw_tbl := List.mem_of_getElem? (i := 94) (by decide +kernel)
theorem q_d1 : Cond.laysStatic "java/lang/Integer" "DigitOnes" "[B" ∈ lw_tbl := List.mem_of_getElem? (i := 1239) (by decide +kernel)
theorem q_d2 : Cond.laysStatic "java/lang/Integer" "DigitTens" "[B" ∈ lw_tbl := List.mem_of_getElem? (i := 1241) (by decide +kernel)
theorem q_in : Cond.initialized "java/lang/Integer" ∈ lw_tbl := List.mem_of_getElem? (i := 108) (by decide +kernel)
theorem q_si : Cond.laysStatic "jdk/internal/util/Preconditions" "SIOOBE_FORMATTER" "Ljava/util/function/BiFunction;" ∈ lw_tbl := List.mem_of_getElem? (i := 549) (by decide +kernel)
theorem q_pr : Cond.initialized "jdk/internal/util/Preconditions" ∈ lw_tbl := List.mem_of_getElem? (i := 102) (by decide +kernel)
theorem q_o1 : Cond.arrayOver (.object "PacketScheduler$Link") ∈ lw_tbl := List.mem_of_getElem? (i := 334) (by decide +kernel)
theorem q_o2 : Cond.arrayOver (.object "java/lang/String") ∈ lw_tbl := List.mem_of_getElem? (i := 1452) (by decide +kernel)
theorem q_sb : Cond.instantiable "java/lang/StringBuilder" 4 ∈ lw_tbl := List.mem_of_getElem? (i := 360) (by decide +kernel)
theorem x_p0 : Cond.privateMethod ⟨"java/lang/AbstractStringBuilder", "ensureCapacityInternal", "(I)V"⟩ ∈ lw_tbl := List.mem_of_getElem? (i := 1118) (by decide +kernel)
theorem x_i0 : Cond.instanceMethod ⟨"java/lang/AbstractStringBuilder", "ensureCapacityInternal", "(I)V"⟩ ∈ lw_tbl := List.mem_of_getElem? (i := 1119) (by decide +kernel)
theorem x_s0 : Cond.sameMethod "java/lang/AbstractStringBuilder" "java/lang/AbstractStringBuilder" "ensureCapacityInternal" "(I)V" ∈ lw_tbl := List.mem_of_getElem? (i := 2071) (by decide +kernel)
theorem x_p1 : Cond.privateMethod ⟨"java/lang/AbstractStringBuilder", "newCapacity", "(I)I"⟩ ∈ lw_tbl := List.mem_of_getElem? (i := 1122) (by decide +kernel)
theorem x_i1 : Cond.instanceMethod ⟨"java/lang/AbstractStringBuilder", "newCapacity", "(I)I"⟩ ∈ lw_tbl := List.mem_of_getElem? (i := 1123) (by decide +kernel)
theorem x_s1 : Cond.sameMethod "java/lang/AbstractStringBuilder" "java/lang/AbstractStringBuilder" "newCapacity" "(I)I" ∈ lw_tbl := List.mem_of_getElem? (i := 2072) (by decide +kernel)
theorem x_p2 : Cond.privateMethod ⟨"java/lang/AbstractStringBuilder", "putStringAt", "(ILjava/lang/String;)V"⟩ ∈ lw_tbl := List.mem_of_getElem? (i := 1192) (by decide +kernel)
theorem x_i2 : Cond.instanceMethod ⟨"java/lang/AbstractStringBuilder", "putStringAt", "(ILjava/lang/String;)V"⟩ ∈ lw_tbl := List.mem_of_getElem? (i := 1193) (by decide +kernel)
theorem x_s2 : Cond.sameMethod "java/lang/AbstractStringBuilder" "java/lang/AbstractStringBuilder" "putStringAt" "(ILjava/lang/String;)V" ∈ lw_tbl := List.mem_of_getElem? (i := 2075) (by decide +kernel)
theorem x_p3 : Cond.privateMethod ⟨"java/lang/AbstractStringBuilder", "inflateIfNeededFor", "(Ljava/lang/String;)V"⟩ ∈ lw_tbl := List.mem_of_getElem? (i := 1196) (by decide +kernel)
theorem x_i3 : Cond.instanceMethod ⟨"java/lang/AbstractStringBuilder", "inflateIfNeededFor", "(Ljava/lang/String;)V"⟩ ∈ lw_tbl := List.mem_of_getElem? (i := 1197) (by decide +kernel)
theorem x_s3 : Cond.sameMethod "java/lang/AbstractStringBuilder" "java/lang/AbstractStringBuilder" "inflateIfNeededFor" "(Ljava/lang/String;)V" ∈ lw_tbl := List.mem_of_getElem? (i := 2076) (by decide +kernel)
theorem k_0 : Cond.instantiable RJ0 4 ∈ lw_tbl := List.mem_of_getElem? (i := 1257) (by decide +kernel)
theorem k_1 : Cond.instantiable RJ4 4 ∈ lw_tbl := List.mem_of_getElem? (i := 360) (by decide +kernel)
theorem k_2 : Cond.instantiable RX0 3 ∈ lw_tbl := List.mem_of_getElem? (i := 328) (by decide +kernel)
theorem k_3 : Cond.instantiable RX1 17 ∈ lw_tbl := List.mem_of_getElem? (i := 211) (by decide +kernel)
theorem k_4 : Cond.instantiable RX2 2 ∈ lw_tbl := List.mem_of_getElem? (i := 1386) (by decide +kernel)
theorem k_5 : Cond.instantiable RX3 2 ∈ lw_tbl := List.mem_of_getElem? (i := 347) (by decide +kernel)
theorem k_6 : Cond.instantiable RX4 3 ∈ lw_tbl := List.mem_of_getElem? (i := 219) (by decide +kernel)
theorem k_7 : Cond.instantiable RX5 7 ∈ lw_tbl := List.mem_of_getElem? (i := 156) (by decide +kernel)
theorem k_8 : Cond.instantiable RX6 2 ∈ lw_tbl := List.mem_of_getElem? (i := 162) (by decide +kernel)
theorem k_9 : Cond.instantiable RX7 8 ∈ lw_tbl := List.mem_of_getElem? (i := 119) (by decide +kernel)
theorem k_10 : Cond.instantiable RX8 10 ∈ lw_tbl := List.mem_of_getElem? (i := 111) (by decide +kernel)
theorem k_11 : Cond.instantiable RX9 29 ∈ lw_tbl := List.mem_of_getElem? (i := 1445) (by decide +kernel)
end Prm
