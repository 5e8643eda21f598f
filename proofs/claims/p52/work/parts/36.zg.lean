-- ===== the words of a throw =====
def nsee : String := "java/util/NoSuchElementException"
def nsn : List String := ["java/lang/RuntimeException", "java/lang/Exception"]
/-- the words that are handed on by hand -/
def nxl : List Cond := [.declares (Bundle.init0 "java/lang/RuntimeException"), .declares (Bundle.init0 "java/lang/Exception"), .declares Bundle.tInit0, .castable nsee nsee]
def nxA : List Cond := [.initialized Bundle.tN, .superclass Bundle.tN "java/lang/Object", .instanceMethod Bundle.tFill, .codeSync Bundle.tFill LibCode.Throwable.Fill.code 1 (some (.object Bundle.tN)), .instanceMethod Bundle.tFill0, .native Bundle.tFill0, .instanceMethod Bundle.tInit0, .code Bundle.tInit0 LibCode.Throwable.Init0.code 1 none, .instanceMethod Bundle.oInit, .code Bundle.oInit ⟨#[0xb1]⟩ 1 none, .methodLink Bundle.tN 1 Bundle.oInit, .methodLink Bundle.tN 27 Bundle.tFill, .methodLink Bundle.tN 202 Bundle.tFill0, .fieldLink Bundle.tN 7 Bundle.tN "cause" "Ljava/lang/Throwable;", .lays Bundle.tN Bundle.tN "cause" "Ljava/lang/Throwable;", .fieldLink Bundle.tN 17 Bundle.tN "stackTrace" Bundle.steD, .lays Bundle.tN Bundle.tN "stackTrace" Bundle.steD, .fieldLink Bundle.tN 24 Bundle.tN "suppressedExceptions" Bundle.listD, .lays Bundle.tN Bundle.tN "suppressedExceptions" Bundle.listD, .fieldLink Bundle.tN 13 Bundle.tN "UNASSIGNED_STACK" Bundle.steD, .fieldLink Bundle.tN 20 Bundle.tN "SUPPRESSED_SENTINEL" Bundle.listD, .lays Bundle.tN Bundle.tN "detailMessage" "Ljava/lang/String;", .instanceMethod (Bundle.init0 nsee), .code (Bundle.init0 nsee) Bundle.five 1 none, .methodLink nsee 1 (Bundle.init0 "java/lang/RuntimeException"), .instanceMethod (Bundle.init0 "java/lang/RuntimeException"), .declares (Bundle.init0 "java/lang/RuntimeException"), .instanceMethod (Bundle.init0 "java/lang/RuntimeException"), .code (Bundle.init0 "java/lang/RuntimeException") Bundle.five 1 none, .methodLink "java/lang/RuntimeException" 1 (Bundle.init0 "java/lang/Exception"), .instanceMethod (Bundle.init0 "java/lang/Exception"), .declares (Bundle.init0 "java/lang/Exception"), .instanceMethod (Bundle.init0 "java/lang/Exception"), .code (Bundle.init0 "java/lang/Exception") Bundle.five 1 none, .methodLink "java/lang/Exception" 1 Bundle.tInit0, .instanceMethod Bundle.tInit0, .declares Bundle.tInit0, .methodLink "MustNotStop" 127 (Bundle.init0 nsee), .instantiable nsee 6, .castable nsee nsee, .selects nsee Bundle.tFill0 Bundle.tFill0, .selects nsee Bundle.tFill Bundle.tFill, .lays nsee Bundle.tN "cause" "Ljava/lang/Throwable;", .lays nsee Bundle.tN "stackTrace" Bundle.steD, .lays nsee Bundle.tN "suppressedExceptions" Bundle.listD, .lays nsee Bundle.tN "detailMessage" "Ljava/lang/String;", .fieldLink Bundle.tN 198 Bundle.tN "backtrace" "Ljava/lang/Object;", .lays Bundle.tN Bundle.tN "backtrace" "Ljava/lang/Object;", .lays nsee Bundle.tN "backtrace" "Ljava/lang/Object;"]
theorem nxA_eq : vx_at0 RX10 127 nsee nsn = nxA := by decide +kernel
theorem nx_0 : (.initialized Bundle.tN : Cond) ∈ nxl ∨ (.initialized Bundle.tN : Cond) ∈ wall := .inr (wl (pc1 _ (List.mem_of_getElem? (i := 26) (by decide +kernel))) (by decide +kernel))
theorem nx_1 : (.superclass Bundle.tN "java/lang/Object" : Cond) ∈ nxl ∨ (.superclass Bundle.tN "java/lang/Object" : Cond) ∈ wall := .inr (wl (pc5 _ (List.mem_of_getElem? (i := 74) (by decide +kernel))) (by decide +kernel))
theorem nx_2 : (.instanceMethod Bundle.tFill : Cond) ∈ nxl ∨ (.instanceMethod Bundle.tFill : Cond) ∈ wall := .inr (wl (pc5 _ (List.mem_of_getElem? (i := 83) (by decide +kernel))) (by decide +kernel))
theorem nx_3 : (.codeSync Bundle.tFill LibCode.Throwable.Fill.code 1 (some (.object Bundle.tN)) : Cond) ∈ nxl ∨ (.codeSync Bundle.tFill LibCode.Throwable.Fill.code 1 (some (.object Bundle.tN)) : Cond) ∈ wall := .inr (wl (pc5 _ (List.mem_of_getElem? (i := 85) (by decide +kernel))) (by decide +kernel))
theorem nx_4 : (.instanceMethod Bundle.tFill0 : Cond) ∈ nxl ∨ (.instanceMethod Bundle.tFill0 : Cond) ∈ wall := .inr (wl (pc5 _ (List.mem_of_getElem? (i := 88) (by decide +kernel))) (by decide +kernel))
theorem nx_5 : (.native Bundle.tFill0 : Cond) ∈ nxl ∨ (.native Bundle.tFill0 : Cond) ∈ wall := .inr (wl (pc5 _ (List.mem_of_getElem? (i := 90) (by decide +kernel))) (by decide +kernel))
theorem nx_6 : (.instanceMethod Bundle.tInit0 : Cond) ∈ nxl ∨ (.instanceMethod Bundle.tInit0 : Cond) ∈ wall := .inr (wl (pc5 _ (List.mem_of_getElem? (i := 75) (by decide +kernel))) (by decide +kernel))
theorem nx_7 : (.code Bundle.tInit0 LibCode.Throwable.Init0.code 1 none : Cond) ∈ nxl ∨ (.code Bundle.tInit0 LibCode.Throwable.Init0.code 1 none : Cond) ∈ wall := .inr (wl (pc5 _ (List.mem_of_getElem? (i := 76) (by decide +kernel))) (by decide +kernel))
theorem nx_8 : (.instanceMethod Bundle.oInit : Cond) ∈ nxl ∨ (.instanceMethod Bundle.oInit : Cond) ∈ wall := .inr (wl (pc1 _ (List.mem_of_getElem? (i := 41) (by decide +kernel))) (by decide +kernel))
theorem nx_9 : (.code Bundle.oInit ⟨#[0xb1]⟩ 1 none : Cond) ∈ nxl ∨ (.code Bundle.oInit ⟨#[0xb1]⟩ 1 none : Cond) ∈ wall := .inr (wl (pc1 _ (List.mem_of_getElem? (i := 42) (by decide +kernel))) (by decide +kernel))
theorem nx_10 : (.methodLink Bundle.tN 1 Bundle.oInit : Cond) ∈ nxl ∨ (.methodLink Bundle.tN 1 Bundle.oInit : Cond) ∈ wall := .inr (wl (pc5 _ (List.mem_of_getElem? (i := 77) (by decide +kernel))) (by decide +kernel))
theorem nx_11 : (.methodLink Bundle.tN 27 Bundle.tFill : Cond) ∈ nxl ∨ (.methodLink Bundle.tN 27 Bundle.tFill : Cond) ∈ wall := .inr (wl (pc5 _ (List.mem_of_getElem? (i := 82) (by decide +kernel))) (by decide +kernel))
theorem nx_12 : (.methodLink Bundle.tN 202 Bundle.tFill0 : Cond) ∈ nxl ∨ (.methodLink Bundle.tN 202 Bundle.tFill0 : Cond) ∈ wall := .inr (wl (pc5 _ (List.mem_of_getElem? (i := 86) (by decide +kernel))) (by decide +kernel))
theorem nx_13 : (.fieldLink Bundle.tN 7 Bundle.tN "cause" "Ljava/lang/Throwable;" : Cond) ∈ nxl ∨ (.fieldLink Bundle.tN 7 Bundle.tN "cause" "Ljava/lang/Throwable;" : Cond) ∈ wall := .inr (wl (pc5 _ (List.mem_of_getElem? (i := 102) (by decide +kernel))) (by decide +kernel))
theorem nx_14 : (.lays Bundle.tN Bundle.tN "cause" "Ljava/lang/Throwable;" : Cond) ∈ nxl ∨ (.lays Bundle.tN Bundle.tN "cause" "Ljava/lang/Throwable;" : Cond) ∈ wall := .inr (wl (pc5 _ (List.mem_of_getElem? (i := 64) (by decide +kernel))) (by decide +kernel))
theorem nx_15 : (.fieldLink Bundle.tN 17 Bundle.tN "stackTrace" Bundle.steD : Cond) ∈ nxl ∨ (.fieldLink Bundle.tN 17 Bundle.tN "stackTrace" Bundle.steD : Cond) ∈ wall := .inr (wl (pc5 _ (List.mem_of_getElem? (i := 103) (by decide +kernel))) (by decide +kernel))
theorem nx_16 : (.lays Bundle.tN Bundle.tN "stackTrace" Bundle.steD : Cond) ∈ nxl ∨ (.lays Bundle.tN Bundle.tN "stackTrace" Bundle.steD : Cond) ∈ wall := .inr (wl (pc5 _ (List.mem_of_getElem? (i := 66) (by decide +kernel))) (by decide +kernel))
theorem nx_17 : (.fieldLink Bundle.tN 24 Bundle.tN "suppressedExceptions" Bundle.listD : Cond) ∈ nxl ∨ (.fieldLink Bundle.tN 24 Bundle.tN "suppressedExceptions" Bundle.listD : Cond) ∈ wall := .inr (wl (pc5 _ (List.mem_of_getElem? (i := 104) (by decide +kernel))) (by decide +kernel))
theorem nx_18 : (.lays Bundle.tN Bundle.tN "suppressedExceptions" Bundle.listD : Cond) ∈ nxl ∨ (.lays Bundle.tN Bundle.tN "suppressedExceptions" Bundle.listD : Cond) ∈ wall := .inr (wl (pc5 _ (List.mem_of_getElem? (i := 68) (by decide +kernel))) (by decide +kernel))
theorem nx_19 : (.fieldLink Bundle.tN 13 Bundle.tN "UNASSIGNED_STACK" Bundle.steD : Cond) ∈ nxl ∨ (.fieldLink Bundle.tN 13 Bundle.tN "UNASSIGNED_STACK" Bundle.steD : Cond) ∈ wall := .inr (wl (pc5 _ (List.mem_of_getElem? (i := 78) (by decide +kernel))) (by decide +kernel))
theorem nx_20 : (.fieldLink Bundle.tN 20 Bundle.tN "SUPPRESSED_SENTINEL" Bundle.listD : Cond) ∈ nxl ∨ (.fieldLink Bundle.tN 20 Bundle.tN "SUPPRESSED_SENTINEL" Bundle.listD : Cond) ∈ wall := .inr (wl (pc5 _ (List.mem_of_getElem? (i := 80) (by decide +kernel))) (by decide +kernel))
theorem nx_21 : (.lays Bundle.tN Bundle.tN "detailMessage" "Ljava/lang/String;" : Cond) ∈ nxl ∨ (.lays Bundle.tN Bundle.tN "detailMessage" "Ljava/lang/String;" : Cond) ∈ wall := .inr (wl (pc5 _ (List.mem_of_getElem? (i := 70) (by decide +kernel))) (by decide +kernel))
theorem nx_22 : (.instanceMethod (Bundle.init0 nsee) : Cond) ∈ nxl ∨ (.instanceMethod (Bundle.init0 nsee) : Cond) ∈ wall := .inr (wl (pc5 _ (List.mem_of_getElem? (i := 92) (by decide +kernel))) (by decide +kernel))
theorem nx_23 : (.code (Bundle.init0 nsee) Bundle.five 1 none : Cond) ∈ nxl ∨ (.code (Bundle.init0 nsee) Bundle.five 1 none : Cond) ∈ wall := .inr (wl (pc5 _ (List.mem_of_getElem? (i := 93) (by decide +kernel))) (by decide +kernel))
theorem nx_24 : (.methodLink nsee 1 (Bundle.init0 "java/lang/RuntimeException") : Cond) ∈ nxl ∨ (.methodLink nsee 1 (Bundle.init0 "java/lang/RuntimeException") : Cond) ∈ wall := .inr (wl (pc5 _ (List.mem_of_getElem? (i := 94) (by decide +kernel))) (by decide +kernel))
theorem nx_25 : (.instanceMethod (Bundle.init0 "java/lang/RuntimeException") : Cond) ∈ nxl ∨ (.instanceMethod (Bundle.init0 "java/lang/RuntimeException") : Cond) ∈ wall := .inr (wl (pc5 _ (List.mem_of_getElem? (i := 95) (by decide +kernel))) (by decide +kernel))
theorem nx_26 : (.declares (Bundle.init0 "java/lang/RuntimeException") : Cond) ∈ nxl ∨ (.declares (Bundle.init0 "java/lang/RuntimeException") : Cond) ∈ wall := .inl (by decide +kernel)
theorem nx_27 : (.instanceMethod (Bundle.init0 "java/lang/RuntimeException") : Cond) ∈ nxl ∨ (.instanceMethod (Bundle.init0 "java/lang/RuntimeException") : Cond) ∈ wall := .inr (wl (pc5 _ (List.mem_of_getElem? (i := 95) (by decide +kernel))) (by decide +kernel))
theorem nx_28 : (.code (Bundle.init0 "java/lang/RuntimeException") Bundle.five 1 none : Cond) ∈ nxl ∨ (.code (Bundle.init0 "java/lang/RuntimeException") Bundle.five 1 none : Cond) ∈ wall := .inr (wl (pc5 _ (List.mem_of_getElem? (i := 96) (by decide +kernel))) (by decide +kernel))
theorem nx_29 : (.methodLink "java/lang/RuntimeException" 1 (Bundle.init0 "java/lang/Exception") : Cond) ∈ nxl ∨ (.methodLink "java/lang/RuntimeException" 1 (Bundle.init0 "java/lang/Exception") : Cond) ∈ wall := .inr (wl (pc5 _ (List.mem_of_getElem? (i := 97) (by decide +kernel))) (by decide +kernel))
theorem nx_30 : (.instanceMethod (Bundle.init0 "java/lang/Exception") : Cond) ∈ nxl ∨ (.instanceMethod (Bundle.init0 "java/lang/Exception") : Cond) ∈ wall := .inr (wl (pc5 _ (List.mem_of_getElem? (i := 98) (by decide +kernel))) (by decide +kernel))
theorem nx_31 : (.declares (Bundle.init0 "java/lang/Exception") : Cond) ∈ nxl ∨ (.declares (Bundle.init0 "java/lang/Exception") : Cond) ∈ wall := .inl (by decide +kernel)
theorem nx_32 : (.instanceMethod (Bundle.init0 "java/lang/Exception") : Cond) ∈ nxl ∨ (.instanceMethod (Bundle.init0 "java/lang/Exception") : Cond) ∈ wall := .inr (wl (pc5 _ (List.mem_of_getElem? (i := 98) (by decide +kernel))) (by decide +kernel))
theorem nx_33 : (.code (Bundle.init0 "java/lang/Exception") Bundle.five 1 none : Cond) ∈ nxl ∨ (.code (Bundle.init0 "java/lang/Exception") Bundle.five 1 none : Cond) ∈ wall := .inr (wl (pc5 _ (List.mem_of_getElem? (i := 99) (by decide +kernel))) (by decide +kernel))
theorem nx_34 : (.methodLink "java/lang/Exception" 1 Bundle.tInit0 : Cond) ∈ nxl ∨ (.methodLink "java/lang/Exception" 1 Bundle.tInit0 : Cond) ∈ wall := .inr (wl (pc5 _ (List.mem_of_getElem? (i := 100) (by decide +kernel))) (by decide +kernel))
theorem nx_35 : (.instanceMethod Bundle.tInit0 : Cond) ∈ nxl ∨ (.instanceMethod Bundle.tInit0 : Cond) ∈ wall := .inr (wl (pc5 _ (List.mem_of_getElem? (i := 75) (by decide +kernel))) (by decide +kernel))
theorem nx_36 : (.declares Bundle.tInit0 : Cond) ∈ nxl ∨ (.declares Bundle.tInit0 : Cond) ∈ wall := .inl (by decide +kernel)
theorem nx_37 : (.methodLink "MustNotStop" 127 (Bundle.init0 nsee) : Cond) ∈ nxl ∨ (.methodLink "MustNotStop" 127 (Bundle.init0 nsee) : Cond) ∈ wall := .inr (wl (pc5 _ (List.mem_of_getElem? (i := 91) (by decide +kernel))) (by decide +kernel))
theorem nx_38 : (.instantiable nsee 6 : Cond) ∈ nxl ∨ (.instantiable nsee 6 : Cond) ∈ wall := .inr (wl (pc5 _ (List.mem_of_getElem? (i := 53) (by decide +kernel))) (by decide +kernel))
theorem nx_39 : (.castable nsee nsee : Cond) ∈ nxl ∨ (.castable nsee nsee : Cond) ∈ wall := .inl (by decide +kernel)
theorem nx_40 : (.selects nsee Bundle.tFill0 Bundle.tFill0 : Cond) ∈ nxl ∨ (.selects nsee Bundle.tFill0 Bundle.tFill0 : Cond) ∈ wall := .inr (wl (pc5 _ (List.mem_of_getElem? (i := 61) (by decide +kernel))) (by decide +kernel))
theorem nx_41 : (.selects nsee Bundle.tFill Bundle.tFill : Cond) ∈ nxl ∨ (.selects nsee Bundle.tFill Bundle.tFill : Cond) ∈ wall := .inr (wl (pc5 _ (List.mem_of_getElem? (i := 62) (by decide +kernel))) (by decide +kernel))
theorem nx_42 : (.lays nsee Bundle.tN "cause" "Ljava/lang/Throwable;" : Cond) ∈ nxl ∨ (.lays nsee Bundle.tN "cause" "Ljava/lang/Throwable;" : Cond) ∈ wall := .inr (wl (pc5 _ (List.mem_of_getElem? (i := 63) (by decide +kernel))) (by decide +kernel))
theorem nx_43 : (.lays nsee Bundle.tN "stackTrace" Bundle.steD : Cond) ∈ nxl ∨ (.lays nsee Bundle.tN "stackTrace" Bundle.steD : Cond) ∈ wall := .inr (wl (pc5 _ (List.mem_of_getElem? (i := 65) (by decide +kernel))) (by decide +kernel))
theorem nx_44 : (.lays nsee Bundle.tN "suppressedExceptions" Bundle.listD : Cond) ∈ nxl ∨ (.lays nsee Bundle.tN "suppressedExceptions" Bundle.listD : Cond) ∈ wall := .inr (wl (pc5 _ (List.mem_of_getElem? (i := 67) (by decide +kernel))) (by decide +kernel))
theorem nx_45 : (.lays nsee Bundle.tN "detailMessage" "Ljava/lang/String;" : Cond) ∈ nxl ∨ (.lays nsee Bundle.tN "detailMessage" "Ljava/lang/String;" : Cond) ∈ wall := .inr (wl (pc5 _ (List.mem_of_getElem? (i := 69) (by decide +kernel))) (by decide +kernel))
theorem nx_46 : (.fieldLink Bundle.tN 198 Bundle.tN "backtrace" "Ljava/lang/Object;" : Cond) ∈ nxl ∨ (.fieldLink Bundle.tN 198 Bundle.tN "backtrace" "Ljava/lang/Object;" : Cond) ∈ wall := .inr (wl (pc5 _ (List.mem_of_getElem? (i := 73) (by decide +kernel))) (by decide +kernel))
theorem nx_47 : (.lays Bundle.tN Bundle.tN "backtrace" "Ljava/lang/Object;" : Cond) ∈ nxl ∨ (.lays Bundle.tN Bundle.tN "backtrace" "Ljava/lang/Object;" : Cond) ∈ wall := .inr (wl (pc5 _ (List.mem_of_getElem? (i := 72) (by decide +kernel))) (by decide +kernel))
theorem nx_48 : (.lays nsee Bundle.tN "backtrace" "Ljava/lang/Object;" : Cond) ∈ nxl ∨ (.lays nsee Bundle.tN "backtrace" "Ljava/lang/Object;" : Cond) ∈ wall := .inr (wl (pc5 _ (List.mem_of_getElem? (i := 71) (by decide +kernel))) (by decide +kernel))
theorem nx_all : ∀ w ∈ nxA, w ∈ nxl ∨ w ∈ wall := List.forall_mem_cons.mpr ⟨nx_0, List.forall_mem_cons.mpr ⟨nx_1, List.forall_mem_cons.mpr ⟨nx_2, List.forall_mem_cons.mpr ⟨nx_3, List.forall_mem_cons.mpr ⟨nx_4, List.forall_mem_cons.mpr ⟨nx_5, List.forall_mem_cons.mpr ⟨nx_6, List.forall_mem_cons.mpr ⟨nx_7, List.forall_mem_cons.mpr ⟨nx_8, List.forall_mem_cons.mpr ⟨nx_9, List.forall_mem_cons.mpr ⟨nx_10, List.forall_mem_cons.mpr ⟨nx_11, List.forall_mem_cons.mpr ⟨nx_12, List.forall_mem_cons.mpr ⟨nx_13, List.forall_mem_cons.mpr ⟨nx_14, List.forall_mem_cons.mpr ⟨nx_15, List.forall_mem_cons.mpr ⟨nx_16, List.forall_mem_cons.mpr ⟨nx_17, List.forall_mem_cons.mpr ⟨nx_18, List.forall_mem_cons.mpr ⟨nx_19, List.forall_mem_cons.mpr ⟨nx_20, List.forall_mem_cons.mpr ⟨nx_21, List.forall_mem_cons.mpr ⟨nx_22, List.forall_mem_cons.mpr ⟨nx_23, List.forall_mem_cons.mpr ⟨nx_24, List.forall_mem_cons.mpr ⟨nx_25, List.forall_mem_cons.mpr ⟨nx_26, List.forall_mem_cons.mpr ⟨nx_27, List.forall_mem_cons.mpr ⟨nx_28, List.forall_mem_cons.mpr ⟨nx_29, List.forall_mem_cons.mpr ⟨nx_30, List.forall_mem_cons.mpr ⟨nx_31, List.forall_mem_cons.mpr ⟨nx_32, List.forall_mem_cons.mpr ⟨nx_33, List.forall_mem_cons.mpr ⟨nx_34, List.forall_mem_cons.mpr ⟨nx_35, List.forall_mem_cons.mpr ⟨nx_36, List.forall_mem_cons.mpr ⟨nx_37, List.forall_mem_cons.mpr ⟨nx_38, List.forall_mem_cons.mpr ⟨nx_39, List.forall_mem_cons.mpr ⟨nx_40, List.forall_mem_cons.mpr ⟨nx_41, List.forall_mem_cons.mpr ⟨nx_42, List.forall_mem_cons.mpr ⟨nx_43, List.forall_mem_cons.mpr ⟨nx_44, List.forall_mem_cons.mpr ⟨nx_45, List.forall_mem_cons.mpr ⟨nx_46, List.forall_mem_cons.mpr ⟨nx_47, List.forall_mem_cons.mpr ⟨nx_48, fun _ h => absurd h List.not_mem_nil⟩⟩⟩⟩⟩⟩⟩⟩⟩⟩⟩⟩⟩⟩⟩⟩⟩⟩⟩⟩⟩⟩⟩⟩⟩⟩⟩⟩⟩⟩⟩⟩⟩⟩⟩⟩⟩⟩⟩⟩⟩⟩⟩⟩⟩⟩⟩⟩⟩
theorem nxl_tab : ∀ w ∈ nxl, w.onTables = true := by decide +kernel
theorem nx_k : Cond.classLink RX10 125 nsee ∈ wall := wl (pc5 _ (List.mem_of_getElem? (i := 52) (by decide +kernel))) (by decide +kernel)
theorem nx_i : Cond.initialized nsee ∈ wall := wl (pc1 _ (List.mem_of_getElem? (i := 29) (by decide +kernel))) (by decide +kernel)
def NX (U : State) : Prop := ∀ w ∈ nxl, va_Nw w U
theorem NX.same {s U : State} (h : NX s) (e : U.vm = s.vm) : NX U := fun w hw => va_Nw.same (nxl_tab w hw) e.symm (h w hw)
theorem NX.warm {s U : State} (h : NX s) (hW : s.WarmedH U.vm) : NX U := List.forall_mem_cons.mpr ⟨va_Nw.warmD hW (h _ (by decide +kernel)), List.forall_mem_cons.mpr ⟨va_Nw.warmD hW (h _ (by decide +kernel)), List.forall_mem_cons.mpr ⟨va_Nw.warmD hW (h _ (by decide +kernel)), List.forall_mem_cons.mpr ⟨va_Nw.warmC hW (h _ (by decide +kernel)), fun _ q => absurd q List.not_mem_nil⟩⟩⟩⟩
theorem NX.at {args : Array Value} {s : State} (h : NX s) (hts : ∀ w ∈ wall, w.before args s = true) : ∀ w ∈ vx_at0 RX10 127 nsee nsn, w.before args s = true := by
  intro w hw
  rw [nxA_eq] at hw
  rcases nx_all w hw with q | q
  · exact va_Nw.use (nxl_tab w q) (h w q)
  · exact hts w q
theorem NX.ot : ∀ w ∈ Cond.classLink RX10 125 nsee :: Cond.initialized nsee :: vx_at0 RX10 127 nsee nsn, vx_ot w = true := by
  intro w hw
  have good : ∀ w ∈ wall, vx_ot w = true := fun w h => by unfold vx_ot; rw [wall_good h, Bool.or_true]
  rcases List.mem_cons.mp hw with rfl | hw
  · exact good _ nx_k
  rcases List.mem_cons.mp hw with rfl | hw
  · exact good _ nx_i
  rw [nxA_eq] at hw
  rcases nx_all w hw with q | q
  · unfold vx_ot; rw [nxl_tab w q, Bool.true_or]
  · exact good w q
/-- the two statics that a throw reads -/
def NU (S : Sx) (U : State) (H : Heap) : Prop := vx_Zq Bundle.tN "UNASSIGNED_STACK" Bundle.steD (Aw S) U H ∧ vx_Zq Bundle.tN "SUPPRESSED_SENTINEL" Bundle.listD (Aw S) U H
theorem NU.to {S : Sx} {s U : State} (h : NU S s s.heap) (hW : s.WarmedH U.vm) (hq : ∀ q : Nat, q < s.heap.size → ¬ Aw S q → U.heap[q]? = s.heap[q]?) : NU S U U.heap := ⟨(vx_Zq.moved hW.alike h.1).kept hq, (vx_Zq.moved hW.alike h.2).kept hq⟩
theorem NU.calling {S : Sx} {U : State} (h : NU S U U.heap) (g : JFrame) (mk : MethodId) (a : Array Value) : NU S (U.calling g mk a) (U.calling g mk a).heap := ⟨vx_Zq.moved (u := U) (U := U.calling g mk a) (Vm.Alike.refl U.vm) h.1, vx_Zq.moved (u := U) (U := U.calling g mk a) (Vm.Alike.refl U.vm) h.2⟩
/-- a contract's start, where it may throw -/
def PX (S : Sx) (w : Wd) (vs : List Value) : Array Value → State → Prop := va_Pc vs (fun U => va_P S.1 vwCl (wsOf S w) U.heap ∧ Sw S U ∧ NX U ∧ NU S U U.heap)
theorem PX.blind {S : Sx} {w : Wd} {vs : List Value} : FrameBlind (PX S w vs) := fun a U g mk h => ⟨h.1, h.2.1, h.2.2.1.calling g mk a, h.2.2.2.1.same rfl, h.2.2.2.2.calling g mk a⟩
def QXi (S : Sx) (r : Option Int32 × Wd) : Array Value → State → Outcome → State → Prop := va_Qi (S := Wd) (fun v u => (some v, u) = r) (BW S) (Aw S)
def QXl (S : Sx) (r : Option Int64 × Wd) : Array Value → State → Outcome → State → Prop := va_Ql (S := Wd) (fun v u => (some v, u) = r) (BW S) (Aw S)
def XX {α : Type} (S : Sx) (r : Option α × Wd) : String → State → State → Prop := vx_X (S := Wd) (fun u => (none, u) = r) (fun E u t => E = nsee ∧ BW S u t) (Aw S)
def HYi (X : Cx) (S : Sx) (cc : ByteArray) (r : Option Int32 × Wd) : Prop := (∀ (v : Int32) (w : Wd) (pc : Nat) (lv : List (Nat × Value)), (some v, w) = r → decode cc pc = .ok (.ireturn, 1) → V X S w pc lv [.int v]) ∧ (∀ (w : Wd) (pc : Nat) (lv : List (Nat × Value)), (none, w) = r → decode cc pc = .ok (.new 125, 3) ∧ decode cc (pc + 3) = .ok (.dup, 1) ∧ decode cc (pc + 4) = .ok (.invokespecial 127, 3) ∧ decode cc (pc + 7) = .ok (.athrow, 1) → V X S w pc lv [])
def HYl (X : Cx) (S : Sx) (cc : ByteArray) (r : Option Int64 × Wd) : Prop := (∀ (v : Int64) (w : Wd) (pc : Nat) (lv : List (Nat × Value)), (some v, w) = r → decode cc pc = .ok (.lreturn, 1) → V X S w pc lv [.long v]) ∧ (∀ (w : Wd) (pc : Nat) (lv : List (Nat × Value)), (none, w) = r → decode cc pc = .ok (.new 125, 3) ∧ decode cc (pc + 3) = .ok (.dup, 1) ∧ decode cc (pc + 4) = .ok (.invokespecial 127, 3) ∧ decode cc (pc + 7) = .ok (.athrow, 1) → V X S w pc lv [])
section XR
variable {cc : ByteArray} {rm : Room} {S : Sx} {w : Wd}
theorem metx_i {l : Launch} {y : MethodName} {maxL : Nat} {vs : List Value} {r : Option Int32 × Wd} (hl : l.stackTraces = false) (hy : plainName y.cls = true) (hown : y.cls = RX10) (hn : (lg_sl vs).length ≤ maxL) (hrm : rm.cells = 1 ∧ rm.slots = 6 ∧ 5 < rm.frames ∧ 81 ≤ rm.locals) (body : ∀ X : Cx, Ok X S cc RX10 maxL rm → HYi X S cc r → V X S w 0 (lv_args 0 vs) []) : vx_Met l y (wsg y cc maxL (some .int)) rm (PX S w vs) (QXi S r) (XX S r) 1 6 (Aw S) := by
  refine vx_ofW (cc := cc) (maxL := maxL) (ret := (some .int)) hy rfl ?_
  intro p e s m args below meth c s₁ B hml htab hv
  obtain ⟨rfl, hP, hw, hNX, hNU⟩ := hv
  obtain ⟨r1, r2, r3, r4⟩ := hrm
  have hx := B.exec
  have hb := B.bytes
  have hr := B.returns
  have hts := atoms_spec (ws := wsg y cc maxL (some .int)) B.pre
  have hts2 : ∀ w ∈ wall, w.before vs.toArray s = true := fun w h => hts w (List.mem_cons_of_mem _ h)
  have hf : s.vm.findClass RX10 = some m.cls := by rw [← hown]; exact findClass_of_methodNamed B.named
  have hlocks := B.notSynchronized
  have hl0 := lv_entry vs (n := maxL) hn
  rw [lg_entry_eq]
  generalize (lg_sl vs ++ List.replicate (maxL - (lg_sl vs).length) Slot.unset).toArray = ls at hl0 ⊢
  refine body (p, l, e, rm, s, m, _, below, meth, c, vx_MQ below (QXi S r) (XX S r) vs.toArray s 1 6 (Aw S)) ⟨hx, hb, hml, rfl, hf, hts2, hw⟩ ⟨?_, ?_⟩ s.heap [] ls hP va_S.rf (by rw [hml]; exact hl0)
  · intro v w2 pc lv e0 d H locs ls2 hP2 hS2 hl2
    exact vx_ret (W.widen (Nat.zero_le _) (Nat.zero_le _) (W.iret hx hb hr (fun t ht hW => ⟨⟨v, w2, rfl, e0, by show va_P _ _ _ _; rw [ht]; exact hP2⟩, hS2.F ht⟩) hS2.2.2 d))
  · intro w2 pc lv e0 d H locs ls2 hP2 hS2 hl2
    obtain ⟨d0, d3, d4, d7⟩ := d
    refine vx_throw0 (own := RX10) (cls := nsee) (names := nsn) (A := Aw S) hx hb hl hf (by decide) (by decide) (hts2 _ nx_k) (hts2 _ nx_i) (hNX.at hts2) NX.ot hNU.1 hNU.2 hS2 hl2.1 d0 d3 d4 d7 (fun x hx => (htab x hx).elim) (by show 2 + 3 < rm.frames; exact r3) (by show 0 + (13 * (2 + 1) + 42) ≤ rm.locals; exact r4) (by show 0 + 1 ≤ rm.cells; exact Nat.le_of_eq r1.symm) (by show 0 + 6 ≤ rm.slots; exact Nat.le_of_eq r2.symm) hlocks ?_ hS2.2.2 (Nat.le_refl _) (Nat.le_refl _)
    intro t hA hz hk
    refine ⟨w2, e0, ⟨rfl, fun k q hq => (hP2 k q hq).kept (hk q.1 (hP2 k q hq).lt)⟩, Nat.le_trans hS2.1 hz, fun q h1 h2 => ?_⟩
    rw [hk q (Nat.lt_of_lt_of_le h1 hS2.1)]
    exact hS2.2.1 q h1 h2
theorem metx_l {l : Launch} {y : MethodName} {maxL : Nat} {vs : List Value} {r : Option Int64 × Wd} (hl : l.stackTraces = false) (hy : plainName y.cls = true) (hown : y.cls = RX10) (hn : (lg_sl vs).length ≤ maxL) (hrm : rm.cells = 1 ∧ rm.slots = 6 ∧ 5 < rm.frames ∧ 81 ≤ rm.locals) (body : ∀ X : Cx, Ok X S cc RX10 maxL rm → HYl X S cc r → V X S w 0 (lv_args 0 vs) []) : vx_Met l y (wsg y cc maxL (some .long)) rm (PX S w vs) (QXl S r) (XX S r) 1 6 (Aw S) := by
  refine vx_ofW (cc := cc) (maxL := maxL) (ret := (some .long)) hy rfl ?_
  intro p e s m args below meth c s₁ B hml htab hv
  obtain ⟨rfl, hP, hw, hNX, hNU⟩ := hv
  obtain ⟨r1, r2, r3, r4⟩ := hrm
  have hx := B.exec
  have hb := B.bytes
  have hr := B.returns
  have hts := atoms_spec (ws := wsg y cc maxL (some .long)) B.pre
  have hts2 : ∀ w ∈ wall, w.before vs.toArray s = true := fun w h => hts w (List.mem_cons_of_mem _ h)
  have hf : s.vm.findClass RX10 = some m.cls := by rw [← hown]; exact findClass_of_methodNamed B.named
  have hlocks := B.notSynchronized
  have hl0 := lv_entry vs (n := maxL) hn
  rw [lg_entry_eq]
  generalize (lg_sl vs ++ List.replicate (maxL - (lg_sl vs).length) Slot.unset).toArray = ls at hl0 ⊢
  refine body (p, l, e, rm, s, m, _, below, meth, c, vx_MQ below (QXl S r) (XX S r) vs.toArray s 1 6 (Aw S)) ⟨hx, hb, hml, rfl, hf, hts2, hw⟩ ⟨?_, ?_⟩ s.heap [] ls hP va_S.rf (by rw [hml]; exact hl0)
  · intro v w2 pc lv e0 d H locs ls2 hP2 hS2 hl2
    exact vx_ret (W.widen (Nat.zero_le _) (Nat.zero_le _) (W.lret hx hb hr (fun t ht hW => ⟨⟨v, w2, rfl, e0, by show va_P _ _ _ _; rw [ht]; exact hP2⟩, hS2.F ht⟩) hS2.2.2 d))
  · intro w2 pc lv e0 d H locs ls2 hP2 hS2 hl2
    obtain ⟨d0, d3, d4, d7⟩ := d
    refine vx_throw0 (own := RX10) (cls := nsee) (names := nsn) (A := Aw S) hx hb hl hf (by decide) (by decide) (hts2 _ nx_k) (hts2 _ nx_i) (hNX.at hts2) NX.ot hNU.1 hNU.2 hS2 hl2.1 d0 d3 d4 d7 (fun x hx => (htab x hx).elim) (by show 2 + 3 < rm.frames; exact r3) (by show 0 + (13 * (2 + 1) + 42) ≤ rm.locals; exact r4) (by show 0 + 1 ≤ rm.cells; exact Nat.le_of_eq r1.symm) (by show 0 + 6 ≤ rm.slots; exact Nat.le_of_eq r2.symm) hlocks ?_ hS2.2.2 (Nat.le_refl _) (Nat.le_refl _)
    intro t hA hz hk
    refine ⟨w2, e0, ⟨rfl, fun k q hq => (hP2 k q hq).kept (hk q.1 (hP2 k q hq).lt)⟩, Nat.le_trans hS2.1 hz, fun q h1 h2 => ?_⟩
    rw [hk q (Nat.lt_of_lt_of_le h1 hS2.1)]
    exact hS2.2.1 q h1 h2
end XR
