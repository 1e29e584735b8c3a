noncomputable section
/-! What is thrown; calls. -/
theorem am_declW {x : MethodName} {bytes : ByteArray} {maxL : Nat} {ret : Option FieldType} {args : Array Value} {s : State} (h1 : (Cond.instanceMethod x).before args s = true) (h2 : (Cond.code x bytes maxL ret).before args s = true) : (Cond.declares x).before args s = true := by
  obtain ⟨mk, methM, hn, hm, hst, -⟩ := Cond.instanceMethod_spec h1
  obtain ⟨methM', cM, hm', -, -, -, -, -, -, hsig⟩ := Cond.code_spec hn h2
  cases hm.symm.trans hm'
  simp [Cond.before, Cond.holds, Cond.value, hn, hm, hst, hsig]
set_option maxRecDepth 20000
theorem am_atl13 : vx_at0 "FareLattice" 367 "java/lang/IndexOutOfBoundsException" ["java/lang/RuntimeException", "java/lang/Exception"] = [.initialized "java/lang/Throwable", .superclass "java/lang/Throwable" "java/lang/Object", .instanceMethod ⟨"java/lang/Throwable", "fillInStackTrace", "()Ljava/lang/Throwable;"⟩, .codeSync ⟨"java/lang/Throwable", "fillInStackTrace", "()Ljava/lang/Throwable;"⟩ Jvm.LibCode.Throwable.Fill.code 1 (some (.object "java/lang/Throwable")), .instanceMethod ⟨"java/lang/Throwable", "fillInStackTrace", "(I)Ljava/lang/Throwable;"⟩, .native ⟨"java/lang/Throwable", "fillInStackTrace", "(I)Ljava/lang/Throwable;"⟩, .instanceMethod ⟨"java/lang/Throwable", "<init>", "()V"⟩, .code ⟨"java/lang/Throwable", "<init>", "()V"⟩ Jvm.LibCode.Throwable.Init0.code 1 none, .instanceMethod ⟨"java/lang/Object", "<init>", "()V"⟩, .code ⟨"java/lang/Object", "<init>", "()V"⟩ ⟨#[0xb1]⟩ 1 none, .methodLink "java/lang/Throwable" 1 ⟨"java/lang/Object", "<init>", "()V"⟩, .methodLink "java/lang/Throwable" 27 ⟨"java/lang/Throwable", "fillInStackTrace", "()Ljava/lang/Throwable;"⟩, .methodLink "java/lang/Throwable" 202 ⟨"java/lang/Throwable", "fillInStackTrace", "(I)Ljava/lang/Throwable;"⟩, .fieldLink "java/lang/Throwable" 7 "java/lang/Throwable" "cause" "Ljava/lang/Throwable;", .lays "java/lang/Throwable" "java/lang/Throwable" "cause" "Ljava/lang/Throwable;", .fieldLink "java/lang/Throwable" 17 "java/lang/Throwable" "stackTrace" "[Ljava/lang/StackTraceElement;", .lays "java/lang/Throwable" "java/lang/Throwable" "stackTrace" "[Ljava/lang/StackTraceElement;", .fieldLink "java/lang/Throwable" 24 "java/lang/Throwable" "suppressedExceptions" "Ljava/util/List;", .lays "java/lang/Throwable" "java/lang/Throwable" "suppressedExceptions" "Ljava/util/List;", .fieldLink "java/lang/Throwable" 13 "java/lang/Throwable" "UNASSIGNED_STACK" "[Ljava/lang/StackTraceElement;", .fieldLink "java/lang/Throwable" 20 "java/lang/Throwable" "SUPPRESSED_SENTINEL" "Ljava/util/List;", .lays "java/lang/Throwable" "java/lang/Throwable" "detailMessage" "Ljava/lang/String;", .instanceMethod ⟨"java/lang/IndexOutOfBoundsException", "<init>", "()V"⟩, .code ⟨"java/lang/IndexOutOfBoundsException", "<init>", "()V"⟩ Bundle.five 1 none, .methodLink "java/lang/IndexOutOfBoundsException" 1 ⟨"java/lang/RuntimeException", "<init>", "()V"⟩, .instanceMethod ⟨"java/lang/RuntimeException", "<init>", "()V"⟩, .declares ⟨"java/lang/RuntimeException", "<init>", "()V"⟩, .instanceMethod ⟨"java/lang/RuntimeException", "<init>", "()V"⟩, .code ⟨"java/lang/RuntimeException", "<init>", "()V"⟩ Bundle.five 1 none, .methodLink "java/lang/RuntimeException" 1 ⟨"java/lang/Exception", "<init>", "()V"⟩, .instanceMethod ⟨"java/lang/Exception", "<init>", "()V"⟩, .declares ⟨"java/lang/Exception", "<init>", "()V"⟩, .instanceMethod ⟨"java/lang/Exception", "<init>", "()V"⟩, .code ⟨"java/lang/Exception", "<init>", "()V"⟩ Bundle.five 1 none, .methodLink "java/lang/Exception" 1 ⟨"java/lang/Throwable", "<init>", "()V"⟩, .instanceMethod ⟨"java/lang/Throwable", "<init>", "()V"⟩, .declares ⟨"java/lang/Throwable", "<init>", "()V"⟩, .methodLink "FareLattice" 367 ⟨"java/lang/IndexOutOfBoundsException", "<init>", "()V"⟩, .instantiable "java/lang/IndexOutOfBoundsException" 6, .castable "java/lang/IndexOutOfBoundsException" "java/lang/IndexOutOfBoundsException", .selects "java/lang/IndexOutOfBoundsException" ⟨"java/lang/Throwable", "fillInStackTrace", "(I)Ljava/lang/Throwable;"⟩ ⟨"java/lang/Throwable", "fillInStackTrace", "(I)Ljava/lang/Throwable;"⟩, .selects "java/lang/IndexOutOfBoundsException" ⟨"java/lang/Throwable", "fillInStackTrace", "()Ljava/lang/Throwable;"⟩ ⟨"java/lang/Throwable", "fillInStackTrace", "()Ljava/lang/Throwable;"⟩, .lays "java/lang/IndexOutOfBoundsException" "java/lang/Throwable" "cause" "Ljava/lang/Throwable;", .lays "java/lang/IndexOutOfBoundsException" "java/lang/Throwable" "stackTrace" "[Ljava/lang/StackTraceElement;", .lays "java/lang/IndexOutOfBoundsException" "java/lang/Throwable" "suppressedExceptions" "Ljava/util/List;", .lays "java/lang/IndexOutOfBoundsException" "java/lang/Throwable" "detailMessage" "Ljava/lang/String;", .fieldLink "java/lang/Throwable" 198 "java/lang/Throwable" "backtrace" "Ljava/lang/Object;", .lays "java/lang/Throwable" "java/lang/Throwable" "backtrace" "Ljava/lang/Object;", .lays "java/lang/IndexOutOfBoundsException" "java/lang/Throwable" "backtrace" "Ljava/lang/Object;"] := by decide +kernel
theorem am_atg13 : ∀ w ∈ Cond.classLink "FareLattice" 365 "java/lang/IndexOutOfBoundsException" :: Cond.initialized "java/lang/IndexOutOfBoundsException" :: vx_at0 "FareLattice" 367 "java/lang/IndexOutOfBoundsException" ["java/lang/RuntimeException", "java/lang/Exception"], vx_ot w = true := by decide +kernel
theorem am_at13 {args : Array Value} {s : State} {kX : ClassId} (hts : ∀ w ∈ am_WS, w.before args s = true) (hX : s.vm.findClass "java/lang/IndexOutOfBoundsException" = some kX) : ∀ w ∈ vx_at0 "FareLattice" 367 "java/lang/IndexOutOfBoundsException" ["java/lang/RuntimeException", "java/lang/Exception"], w.before args s = true := by
  rw [am_atl13]
  exact vx_c (hts _ (am_w1 (i := 7) rfl rfl)) (vx_c (hts _ (am_w1 (i := 218) rfl rfl)) (vx_c (hts _ (am_w1 (i := 227) rfl rfl)) (vx_c (hts _ (am_w1 (i := 231) rfl rfl)) (vx_c (hts _ (am_w1 (i := 234) rfl rfl)) (vx_c (hts _ (am_w1 (i := 236) rfl rfl)) (vx_c (hts _ (am_w1 (i := 219) rfl rfl)) (vx_c (hts _ (am_w1 (i := 220) rfl rfl)) (vx_c (hts _ (am_w1 (i := 38) rfl rfl)) (vx_c (hts _ (am_w1 (i := 39) rfl rfl)) (vx_c (hts _ (am_w1 (i := 221) rfl rfl)) (vx_c (hts _ (am_w1 (i := 226) rfl rfl)) (vx_c (hts _ (am_w1 (i := 232) rfl rfl)) (vx_c (hts _ (am_w2 (i := 9) rfl rfl)) (vx_c (hts _ (am_w1 (i := 208) rfl rfl)) (vx_c (hts _ (am_w2 (i := 10) rfl rfl)) (vx_c (hts _ (am_w1 (i := 210) rfl rfl)) (vx_c (hts _ (am_w2 (i := 11) rfl rfl)) (vx_c (hts _ (am_w1 (i := 212) rfl rfl)) (vx_c (hts _ (am_w1 (i := 222) rfl rfl)) (vx_c (hts _ (am_w1 (i := 224) rfl rfl)) (vx_c (hts _ (am_w1 (i := 214) rfl rfl)) (vx_c (hts _ (am_w1 (i := 238) rfl rfl)) (vx_c (hts _ (am_w1 (i := 239) rfl rfl)) (vx_c (hts _ (am_w2 (i := 0) rfl rfl)) (vx_c (hts _ (am_w2 (i := 1) rfl rfl)) (vx_c (am_declW (hts _ (am_w2 (i := 1) rfl rfl)) (hts _ (am_w2 (i := 2) rfl rfl))) (vx_c (hts _ (am_w2 (i := 1) rfl rfl)) (vx_c (hts _ (am_w2 (i := 2) rfl rfl)) (vx_c (hts _ (am_w2 (i := 3) rfl rfl)) (vx_c (hts _ (am_w2 (i := 4) rfl rfl)) (vx_c (am_declW (hts _ (am_w2 (i := 4) rfl rfl)) (hts _ (am_w2 (i := 5) rfl rfl))) (vx_c (hts _ (am_w2 (i := 4) rfl rfl)) (vx_c (hts _ (am_w2 (i := 5) rfl rfl)) (vx_c (hts _ (am_w2 (i := 6) rfl rfl)) (vx_c (hts _ (am_w1 (i := 219) rfl rfl)) (vx_c (am_declW (hts _ (am_w1 (i := 219) rfl rfl)) (hts _ (am_w1 (i := 220) rfl rfl))) (vx_c (hts _ (am_w1 (i := 237) rfl rfl)) (vx_c (hts _ (am_w1 (i := 197) rfl rfl)) (vx_c (am_castS hX) (vx_c (hts _ (am_w1 (i := 205) rfl rfl)) (vx_c (hts _ (am_w1 (i := 206) rfl rfl)) (vx_c (hts _ (am_w1 (i := 207) rfl rfl)) (vx_c (hts _ (am_w1 (i := 209) rfl rfl)) (vx_c (hts _ (am_w1 (i := 211) rfl rfl)) (vx_c (hts _ (am_w1 (i := 213) rfl rfl)) (vx_c (hts _ (am_w1 (i := 217) rfl rfl)) (vx_c (hts _ (am_w1 (i := 216) rfl rfl)) (vx_c (hts _ (am_w1 (i := 215) rfl rfl)) (vx_n)))))))))))))))))))))))))))))))))))))))))))))))))
theorem am_atl14 : vx_at0 "FareLattice" 370 "java/lang/IllegalArgumentException" ["java/lang/RuntimeException", "java/lang/Exception"] = [.initialized "java/lang/Throwable", .superclass "java/lang/Throwable" "java/lang/Object", .instanceMethod ⟨"java/lang/Throwable", "fillInStackTrace", "()Ljava/lang/Throwable;"⟩, .codeSync ⟨"java/lang/Throwable", "fillInStackTrace", "()Ljava/lang/Throwable;"⟩ Jvm.LibCode.Throwable.Fill.code 1 (some (.object "java/lang/Throwable")), .instanceMethod ⟨"java/lang/Throwable", "fillInStackTrace", "(I)Ljava/lang/Throwable;"⟩, .native ⟨"java/lang/Throwable", "fillInStackTrace", "(I)Ljava/lang/Throwable;"⟩, .instanceMethod ⟨"java/lang/Throwable", "<init>", "()V"⟩, .code ⟨"java/lang/Throwable", "<init>", "()V"⟩ Jvm.LibCode.Throwable.Init0.code 1 none, .instanceMethod ⟨"java/lang/Object", "<init>", "()V"⟩, .code ⟨"java/lang/Object", "<init>", "()V"⟩ ⟨#[0xb1]⟩ 1 none, .methodLink "java/lang/Throwable" 1 ⟨"java/lang/Object", "<init>", "()V"⟩, .methodLink "java/lang/Throwable" 27 ⟨"java/lang/Throwable", "fillInStackTrace", "()Ljava/lang/Throwable;"⟩, .methodLink "java/lang/Throwable" 202 ⟨"java/lang/Throwable", "fillInStackTrace", "(I)Ljava/lang/Throwable;"⟩, .fieldLink "java/lang/Throwable" 7 "java/lang/Throwable" "cause" "Ljava/lang/Throwable;", .lays "java/lang/Throwable" "java/lang/Throwable" "cause" "Ljava/lang/Throwable;", .fieldLink "java/lang/Throwable" 17 "java/lang/Throwable" "stackTrace" "[Ljava/lang/StackTraceElement;", .lays "java/lang/Throwable" "java/lang/Throwable" "stackTrace" "[Ljava/lang/StackTraceElement;", .fieldLink "java/lang/Throwable" 24 "java/lang/Throwable" "suppressedExceptions" "Ljava/util/List;", .lays "java/lang/Throwable" "java/lang/Throwable" "suppressedExceptions" "Ljava/util/List;", .fieldLink "java/lang/Throwable" 13 "java/lang/Throwable" "UNASSIGNED_STACK" "[Ljava/lang/StackTraceElement;", .fieldLink "java/lang/Throwable" 20 "java/lang/Throwable" "SUPPRESSED_SENTINEL" "Ljava/util/List;", .lays "java/lang/Throwable" "java/lang/Throwable" "detailMessage" "Ljava/lang/String;", .instanceMethod ⟨"java/lang/IllegalArgumentException", "<init>", "()V"⟩, .code ⟨"java/lang/IllegalArgumentException", "<init>", "()V"⟩ Bundle.five 1 none, .methodLink "java/lang/IllegalArgumentException" 1 ⟨"java/lang/RuntimeException", "<init>", "()V"⟩, .instanceMethod ⟨"java/lang/RuntimeException", "<init>", "()V"⟩, .declares ⟨"java/lang/RuntimeException", "<init>", "()V"⟩, .instanceMethod ⟨"java/lang/RuntimeException", "<init>", "()V"⟩, .code ⟨"java/lang/RuntimeException", "<init>", "()V"⟩ Bundle.five 1 none, .methodLink "java/lang/RuntimeException" 1 ⟨"java/lang/Exception", "<init>", "()V"⟩, .instanceMethod ⟨"java/lang/Exception", "<init>", "()V"⟩, .declares ⟨"java/lang/Exception", "<init>", "()V"⟩, .instanceMethod ⟨"java/lang/Exception", "<init>", "()V"⟩, .code ⟨"java/lang/Exception", "<init>", "()V"⟩ Bundle.five 1 none, .methodLink "java/lang/Exception" 1 ⟨"java/lang/Throwable", "<init>", "()V"⟩, .instanceMethod ⟨"java/lang/Throwable", "<init>", "()V"⟩, .declares ⟨"java/lang/Throwable", "<init>", "()V"⟩, .methodLink "FareLattice" 370 ⟨"java/lang/IllegalArgumentException", "<init>", "()V"⟩, .instantiable "java/lang/IllegalArgumentException" 6, .castable "java/lang/IllegalArgumentException" "java/lang/IllegalArgumentException", .selects "java/lang/IllegalArgumentException" ⟨"java/lang/Throwable", "fillInStackTrace", "(I)Ljava/lang/Throwable;"⟩ ⟨"java/lang/Throwable", "fillInStackTrace", "(I)Ljava/lang/Throwable;"⟩, .selects "java/lang/IllegalArgumentException" ⟨"java/lang/Throwable", "fillInStackTrace", "()Ljava/lang/Throwable;"⟩ ⟨"java/lang/Throwable", "fillInStackTrace", "()Ljava/lang/Throwable;"⟩, .lays "java/lang/IllegalArgumentException" "java/lang/Throwable" "cause" "Ljava/lang/Throwable;", .lays "java/lang/IllegalArgumentException" "java/lang/Throwable" "stackTrace" "[Ljava/lang/StackTraceElement;", .lays "java/lang/IllegalArgumentException" "java/lang/Throwable" "suppressedExceptions" "Ljava/util/List;", .lays "java/lang/IllegalArgumentException" "java/lang/Throwable" "detailMessage" "Ljava/lang/String;", .fieldLink "java/lang/Throwable" 198 "java/lang/Throwable" "backtrace" "Ljava/lang/Object;", .lays "java/lang/Throwable" "java/lang/Throwable" "backtrace" "Ljava/lang/Object;", .lays "java/lang/IllegalArgumentException" "java/lang/Throwable" "backtrace" "Ljava/lang/Object;"] := by decide +kernel
theorem am_atg14 : ∀ w ∈ Cond.classLink "FareLattice" 368 "java/lang/IllegalArgumentException" :: Cond.initialized "java/lang/IllegalArgumentException" :: vx_at0 "FareLattice" 370 "java/lang/IllegalArgumentException" ["java/lang/RuntimeException", "java/lang/Exception"], vx_ot w = true := by decide +kernel
theorem am_at14 {args : Array Value} {s : State} {kX : ClassId} (hts : ∀ w ∈ am_WS, w.before args s = true) (hX : s.vm.findClass "java/lang/IllegalArgumentException" = some kX) : ∀ w ∈ vx_at0 "FareLattice" 370 "java/lang/IllegalArgumentException" ["java/lang/RuntimeException", "java/lang/Exception"], w.before args s = true := by
  rw [am_atl14]
  exact vx_c (hts _ (am_w1 (i := 7) rfl rfl)) (vx_c (hts _ (am_w1 (i := 218) rfl rfl)) (vx_c (hts _ (am_w1 (i := 227) rfl rfl)) (vx_c (hts _ (am_w1 (i := 231) rfl rfl)) (vx_c (hts _ (am_w1 (i := 234) rfl rfl)) (vx_c (hts _ (am_w1 (i := 236) rfl rfl)) (vx_c (hts _ (am_w1 (i := 219) rfl rfl)) (vx_c (hts _ (am_w1 (i := 220) rfl rfl)) (vx_c (hts _ (am_w1 (i := 38) rfl rfl)) (vx_c (hts _ (am_w1 (i := 39) rfl rfl)) (vx_c (hts _ (am_w1 (i := 221) rfl rfl)) (vx_c (hts _ (am_w1 (i := 226) rfl rfl)) (vx_c (hts _ (am_w1 (i := 232) rfl rfl)) (vx_c (hts _ (am_w2 (i := 9) rfl rfl)) (vx_c (hts _ (am_w1 (i := 208) rfl rfl)) (vx_c (hts _ (am_w2 (i := 10) rfl rfl)) (vx_c (hts _ (am_w1 (i := 210) rfl rfl)) (vx_c (hts _ (am_w2 (i := 11) rfl rfl)) (vx_c (hts _ (am_w1 (i := 212) rfl rfl)) (vx_c (hts _ (am_w1 (i := 222) rfl rfl)) (vx_c (hts _ (am_w1 (i := 224) rfl rfl)) (vx_c (hts _ (am_w1 (i := 214) rfl rfl)) (vx_c (hts _ (am_w2 (i := 36) rfl rfl)) (vx_c (hts _ (am_w2 (i := 37) rfl rfl)) (vx_c (hts _ (am_w2 (i := 38) rfl rfl)) (vx_c (hts _ (am_w2 (i := 1) rfl rfl)) (vx_c (am_declW (hts _ (am_w2 (i := 1) rfl rfl)) (hts _ (am_w2 (i := 2) rfl rfl))) (vx_c (hts _ (am_w2 (i := 1) rfl rfl)) (vx_c (hts _ (am_w2 (i := 2) rfl rfl)) (vx_c (hts _ (am_w2 (i := 3) rfl rfl)) (vx_c (hts _ (am_w2 (i := 4) rfl rfl)) (vx_c (am_declW (hts _ (am_w2 (i := 4) rfl rfl)) (hts _ (am_w2 (i := 5) rfl rfl))) (vx_c (hts _ (am_w2 (i := 4) rfl rfl)) (vx_c (hts _ (am_w2 (i := 5) rfl rfl)) (vx_c (hts _ (am_w2 (i := 6) rfl rfl)) (vx_c (hts _ (am_w1 (i := 219) rfl rfl)) (vx_c (am_declW (hts _ (am_w1 (i := 219) rfl rfl)) (hts _ (am_w1 (i := 220) rfl rfl))) (vx_c (hts _ (am_w2 (i := 35) rfl rfl)) (vx_c (hts _ (am_w2 (i := 27) rfl rfl)) (vx_c (am_castS hX) (vx_c (hts _ (am_w2 (i := 29) rfl rfl)) (vx_c (hts _ (am_w1 (i := 229) rfl rfl)) (vx_c (hts _ (am_w2 (i := 30) rfl rfl)) (vx_c (hts _ (am_w2 (i := 31) rfl rfl)) (vx_c (hts _ (am_w2 (i := 32) rfl rfl)) (vx_c (hts _ (am_w2 (i := 33) rfl rfl)) (vx_c (hts _ (am_w1 (i := 217) rfl rfl)) (vx_c (hts _ (am_w1 (i := 216) rfl rfl)) (vx_c (hts _ (am_w2 (i := 34) rfl rfl)) (vx_n)))))))))))))))))))))))))))))))))))))))))))))))))
theorem am_atl15 : vx_at0 "FareLattice" 373 "java/lang/IllegalStateException" ["java/lang/RuntimeException", "java/lang/Exception"] = [.initialized "java/lang/Throwable", .superclass "java/lang/Throwable" "java/lang/Object", .instanceMethod ⟨"java/lang/Throwable", "fillInStackTrace", "()Ljava/lang/Throwable;"⟩, .codeSync ⟨"java/lang/Throwable", "fillInStackTrace", "()Ljava/lang/Throwable;"⟩ Jvm.LibCode.Throwable.Fill.code 1 (some (.object "java/lang/Throwable")), .instanceMethod ⟨"java/lang/Throwable", "fillInStackTrace", "(I)Ljava/lang/Throwable;"⟩, .native ⟨"java/lang/Throwable", "fillInStackTrace", "(I)Ljava/lang/Throwable;"⟩, .instanceMethod ⟨"java/lang/Throwable", "<init>", "()V"⟩, .code ⟨"java/lang/Throwable", "<init>", "()V"⟩ Jvm.LibCode.Throwable.Init0.code 1 none, .instanceMethod ⟨"java/lang/Object", "<init>", "()V"⟩, .code ⟨"java/lang/Object", "<init>", "()V"⟩ ⟨#[0xb1]⟩ 1 none, .methodLink "java/lang/Throwable" 1 ⟨"java/lang/Object", "<init>", "()V"⟩, .methodLink "java/lang/Throwable" 27 ⟨"java/lang/Throwable", "fillInStackTrace", "()Ljava/lang/Throwable;"⟩, .methodLink "java/lang/Throwable" 202 ⟨"java/lang/Throwable", "fillInStackTrace", "(I)Ljava/lang/Throwable;"⟩, .fieldLink "java/lang/Throwable" 7 "java/lang/Throwable" "cause" "Ljava/lang/Throwable;", .lays "java/lang/Throwable" "java/lang/Throwable" "cause" "Ljava/lang/Throwable;", .fieldLink "java/lang/Throwable" 17 "java/lang/Throwable" "stackTrace" "[Ljava/lang/StackTraceElement;", .lays "java/lang/Throwable" "java/lang/Throwable" "stackTrace" "[Ljava/lang/StackTraceElement;", .fieldLink "java/lang/Throwable" 24 "java/lang/Throwable" "suppressedExceptions" "Ljava/util/List;", .lays "java/lang/Throwable" "java/lang/Throwable" "suppressedExceptions" "Ljava/util/List;", .fieldLink "java/lang/Throwable" 13 "java/lang/Throwable" "UNASSIGNED_STACK" "[Ljava/lang/StackTraceElement;", .fieldLink "java/lang/Throwable" 20 "java/lang/Throwable" "SUPPRESSED_SENTINEL" "Ljava/util/List;", .lays "java/lang/Throwable" "java/lang/Throwable" "detailMessage" "Ljava/lang/String;", .instanceMethod ⟨"java/lang/IllegalStateException", "<init>", "()V"⟩, .code ⟨"java/lang/IllegalStateException", "<init>", "()V"⟩ Bundle.five 1 none, .methodLink "java/lang/IllegalStateException" 1 ⟨"java/lang/RuntimeException", "<init>", "()V"⟩, .instanceMethod ⟨"java/lang/RuntimeException", "<init>", "()V"⟩, .declares ⟨"java/lang/RuntimeException", "<init>", "()V"⟩, .instanceMethod ⟨"java/lang/RuntimeException", "<init>", "()V"⟩, .code ⟨"java/lang/RuntimeException", "<init>", "()V"⟩ Bundle.five 1 none, .methodLink "java/lang/RuntimeException" 1 ⟨"java/lang/Exception", "<init>", "()V"⟩, .instanceMethod ⟨"java/lang/Exception", "<init>", "()V"⟩, .declares ⟨"java/lang/Exception", "<init>", "()V"⟩, .instanceMethod ⟨"java/lang/Exception", "<init>", "()V"⟩, .code ⟨"java/lang/Exception", "<init>", "()V"⟩ Bundle.five 1 none, .methodLink "java/lang/Exception" 1 ⟨"java/lang/Throwable", "<init>", "()V"⟩, .instanceMethod ⟨"java/lang/Throwable", "<init>", "()V"⟩, .declares ⟨"java/lang/Throwable", "<init>", "()V"⟩, .methodLink "FareLattice" 373 ⟨"java/lang/IllegalStateException", "<init>", "()V"⟩, .instantiable "java/lang/IllegalStateException" 6, .castable "java/lang/IllegalStateException" "java/lang/IllegalStateException", .selects "java/lang/IllegalStateException" ⟨"java/lang/Throwable", "fillInStackTrace", "(I)Ljava/lang/Throwable;"⟩ ⟨"java/lang/Throwable", "fillInStackTrace", "(I)Ljava/lang/Throwable;"⟩, .selects "java/lang/IllegalStateException" ⟨"java/lang/Throwable", "fillInStackTrace", "()Ljava/lang/Throwable;"⟩ ⟨"java/lang/Throwable", "fillInStackTrace", "()Ljava/lang/Throwable;"⟩, .lays "java/lang/IllegalStateException" "java/lang/Throwable" "cause" "Ljava/lang/Throwable;", .lays "java/lang/IllegalStateException" "java/lang/Throwable" "stackTrace" "[Ljava/lang/StackTraceElement;", .lays "java/lang/IllegalStateException" "java/lang/Throwable" "suppressedExceptions" "Ljava/util/List;", .lays "java/lang/IllegalStateException" "java/lang/Throwable" "detailMessage" "Ljava/lang/String;", .fieldLink "java/lang/Throwable" 198 "java/lang/Throwable" "backtrace" "Ljava/lang/Object;", .lays "java/lang/Throwable" "java/lang/Throwable" "backtrace" "Ljava/lang/Object;", .lays "java/lang/IllegalStateException" "java/lang/Throwable" "backtrace" "Ljava/lang/Object;"] := by decide +kernel
theorem am_atg15 : ∀ w ∈ Cond.classLink "FareLattice" 371 "java/lang/IllegalStateException" :: Cond.initialized "java/lang/IllegalStateException" :: vx_at0 "FareLattice" 373 "java/lang/IllegalStateException" ["java/lang/RuntimeException", "java/lang/Exception"], vx_ot w = true := by decide +kernel
theorem am_at15 {args : Array Value} {s : State} {kX : ClassId} (hts : ∀ w ∈ am_WS, w.before args s = true) (hX : s.vm.findClass "java/lang/IllegalStateException" = some kX) : ∀ w ∈ vx_at0 "FareLattice" 373 "java/lang/IllegalStateException" ["java/lang/RuntimeException", "java/lang/Exception"], w.before args s = true := by
  rw [am_atl15]
  exact vx_c (hts _ (am_w1 (i := 7) rfl rfl)) (vx_c (hts _ (am_w1 (i := 218) rfl rfl)) (vx_c (hts _ (am_w1 (i := 227) rfl rfl)) (vx_c (hts _ (am_w1 (i := 231) rfl rfl)) (vx_c (hts _ (am_w1 (i := 234) rfl rfl)) (vx_c (hts _ (am_w1 (i := 236) rfl rfl)) (vx_c (hts _ (am_w1 (i := 219) rfl rfl)) (vx_c (hts _ (am_w1 (i := 220) rfl rfl)) (vx_c (hts _ (am_w1 (i := 38) rfl rfl)) (vx_c (hts _ (am_w1 (i := 39) rfl rfl)) (vx_c (hts _ (am_w1 (i := 221) rfl rfl)) (vx_c (hts _ (am_w1 (i := 226) rfl rfl)) (vx_c (hts _ (am_w1 (i := 232) rfl rfl)) (vx_c (hts _ (am_w2 (i := 9) rfl rfl)) (vx_c (hts _ (am_w1 (i := 208) rfl rfl)) (vx_c (hts _ (am_w2 (i := 10) rfl rfl)) (vx_c (hts _ (am_w1 (i := 210) rfl rfl)) (vx_c (hts _ (am_w2 (i := 11) rfl rfl)) (vx_c (hts _ (am_w1 (i := 212) rfl rfl)) (vx_c (hts _ (am_w1 (i := 222) rfl rfl)) (vx_c (hts _ (am_w1 (i := 224) rfl rfl)) (vx_c (hts _ (am_w1 (i := 214) rfl rfl)) (vx_c (hts _ (am_w2 (i := 58) rfl rfl)) (vx_c (hts _ (am_w2 (i := 59) rfl rfl)) (vx_c (hts _ (am_w2 (i := 60) rfl rfl)) (vx_c (hts _ (am_w2 (i := 1) rfl rfl)) (vx_c (am_declW (hts _ (am_w2 (i := 1) rfl rfl)) (hts _ (am_w2 (i := 2) rfl rfl))) (vx_c (hts _ (am_w2 (i := 1) rfl rfl)) (vx_c (hts _ (am_w2 (i := 2) rfl rfl)) (vx_c (hts _ (am_w2 (i := 3) rfl rfl)) (vx_c (hts _ (am_w2 (i := 4) rfl rfl)) (vx_c (am_declW (hts _ (am_w2 (i := 4) rfl rfl)) (hts _ (am_w2 (i := 5) rfl rfl))) (vx_c (hts _ (am_w2 (i := 4) rfl rfl)) (vx_c (hts _ (am_w2 (i := 5) rfl rfl)) (vx_c (hts _ (am_w2 (i := 6) rfl rfl)) (vx_c (hts _ (am_w1 (i := 219) rfl rfl)) (vx_c (am_declW (hts _ (am_w1 (i := 219) rfl rfl)) (hts _ (am_w1 (i := 220) rfl rfl))) (vx_c (hts _ (am_w2 (i := 57) rfl rfl)) (vx_c (hts _ (am_w2 (i := 49) rfl rfl)) (vx_c (am_castS hX) (vx_c (hts _ (am_w2 (i := 51) rfl rfl)) (vx_c (hts _ (am_w1 (i := 230) rfl rfl)) (vx_c (hts _ (am_w2 (i := 52) rfl rfl)) (vx_c (hts _ (am_w2 (i := 53) rfl rfl)) (vx_c (hts _ (am_w2 (i := 54) rfl rfl)) (vx_c (hts _ (am_w2 (i := 55) rfl rfl)) (vx_c (hts _ (am_w1 (i := 217) rfl rfl)) (vx_c (hts _ (am_w1 (i := 216) rfl rfl)) (vx_c (hts _ (am_w2 (i := 56) rfl rfl)) (vx_n)))))))))))))))))))))))))))))))))))))))))))))))))
section ENDS
variable {G : am_G} {l : Launch} {d y : Nat} {o : am_O} {h h' h1 : am_H} {pc pc1 n : Nat} {ls ls1 : List (Option am_V)} {st st1 : List am_V}
/-- an exception's object is no part of the clean heap -/
theorem am_Si_exc {A : Nat → Prop} {H0 H H1 : Heap} {ad : am_R → Nat} {L : List am_R} {locs locs1 : List Loc} {t nf q ci : Nat} (S : am_Si G A H0 h ad L H locs) (ht : 13 ≤ t ∧ t ≤ 15)
    (hP : va_P (gD G) am_cl14 (am_ws G ad h L ++ [(q, .inr (ci, []))]) H1) (hD : va_D A (am_ws G ad h L ++ [(q, .inr (ci, []))])) (hS : va_S A H0 H1 locs1) :
    am_Si G A H0 (hNO h t nf) ad L H1 locs1 ∧ ∀ r, am_ok h r → am_ok (hNO h t nf) r := by
  obtain ⟨⟨s1, s2, s3, s4, s5, s6, s7, s8, s9⟩, sP, sD, -⟩ := S
  have hlv : ∀ r, am_lv (hNO h t nf) r ↔ am_lv h r := by
    intro r
    obtain ⟨a, b⟩ := r
    show (b < am_u1 (hCN h) t (hCN h t + 1) a ∧ (a < 13 ∨ 15 < a)) ↔ (b < hCN h a ∧ (a < 13 ∨ 15 < a))
    unfold am_u1
    by_cases ha : a = t
    · subst ha; omega
    · rw [if_neg ha]
  have hok : ∀ r, am_ok h r → am_ok (hNO h t nf) r := by
    intro r hr
    rcases hr with hr | hr
    · exact Or.inl ((hlv r).mpr hr)
    · exact Or.inr hr
  have hne : ∀ r ∈ L, r ≠ hNX h t := by
    intro r hr e
    have := (s1 r).mpr hr
    subst e
    have h2 := this.2
    have h3 : (hNX h t).1 = t := rfl
    rw [h3] at h2
    omega
  have hw : am_ws G ad (hNO h t nf) L = am_ws G ad h L := by
    unfold am_ws
    apply List.map_congr_left
    intro r hr
    congr 1
    unfold am_en
    cases am_kc r.1 with
    | none => rfl
    | some c9 =>
      dsimp only
      congr 2
      unfold am_ob
      apply List.map_congr_left
      intro j _
      have e2 : hFR (hNO h t nf) (100 * c9 + j) r = hFR h (100 * c9 + j) r := by show (if r = hNX h t then none else hFR h (100 * c9 + j) r) = _; exact if_neg (hne r hr)
      have e3 : hFI (hNO h t nf) (100 * c9 + j) r = hFI h (100 * c9 + j) r := by show (if r = hNX h t then (0 : Int32) else hFI h (100 * c9 + j) r) = _; exact if_neg (hne r hr)
      unfold am_fv
      rw [e2, e3]
  refine ⟨⟨⟨fun r => (hlv r).trans (s1 r), fun f r q hq => ?_, fun r j q hq => ⟨hok q (s3 r j q hq).1, (s3 r j q hq).2⟩, fun t' ht' => ?_, s5, s6, s7, s8, s9⟩, ?_, ?_, hS⟩, hok⟩
  · have hx' : (if r = hNX h t then none else hFR h f r) = some q := hq
    split at hx'
    · cases hx'
    · exact hok q (s2 f r q hx')
  · have hx : am_u1 (hCN h) t (hCN h t + 1) t' ≠ 0 := ht'
    unfold am_u1 at hx
    split at hx
    · rename_i e; subst e; exact Or.inl ht
    · exact s4 t' hx
  · rw [hw]
    intro k x hk
    exact hP k x (by rw [List.getElem?_append_left (List.getElem?_eq_some_iff.mp hk).1]; exact hk)
  · rw [hw]
    exact ⟨fun i j p q hi hj => hD.1 i j p q (by rw [List.getElem?_append_left (List.getElem?_eq_some_iff.mp hi).1]; exact hi) (by rw [List.getElem?_append_left (List.getElem?_eq_some_iff.mp hj).1]; exact hj), fun k q hk => hD.2 k q (by rw [List.getElem?_append_left (List.getElem?_eq_some_iff.mp hk).1]; exact hk)⟩
theorem am_xn_at {k t ic : Nat} (h : am_xn k = some (t, ic)) : (k = 80365 ∧ t = 13 ∧ ic = 367) ∨ (k = 80368 ∧ t = 14 ∧ ic = 370) ∨ (k = 80371 ∧ t = 15 ∧ ic = 373) := by
  unfold am_xn at h
  split at h
  · cases h; exact Or.inl ⟨rfl, rfl, rfl⟩
  · cases h; exact Or.inr (Or.inl ⟨rfl, rfl, rfl⟩)
  · cases h; exact Or.inr (Or.inr ⟨rfl, rfl, rfl⟩)
  · cases h
/-- throw new -/
theorem v_throw {i : Nat} (hc : am_cd y pc = some (.new i, n)) (hs : am_do y pc n ls st h (.new i) = some (.inr (.inr (o, h')))) : am_P G l d y o h' pc ls st h := by
  obtain ⟨hn, hi⟩ := am_two (am_len hc)
  simp only [am_do] at hs
  split at hs
  · split at hs <;> cases hs
  · split at hs
    · rename_i t ic hx
      split at hs
      · rename_i hcd
        obtain ⟨hd3, hd4, hd7, hh0, hsum⟩ := hcd
        unfold am_fin at hs
        cases hs
        subst hn
        intro p e R s m args below meth c A ad L H locs kc ks lsM Q C S hl hf hr hE
        have hts := C.2.2.2.2.2.2.1
        have hWf := C.2.2.2.2.2.2.2.2.2.2.1
        have hown := C.2.2.2.2.2.1
        have hml : lsM.size = c.maxLocals := by obtain ⟨lv, hl1, -⟩ := hl; rw [hl1.1]; exact C.2.2.2.2.1.symm
        have how : am_ow y = 8 := by
          have := (am_K_div (y := y) hi).1
          rcases am_xn_at hx with ⟨k1, -⟩ | ⟨k1, -⟩ | ⟨k1, -⟩ <;> omega
        rw [how] at hown
        have hown : s.vm.findClass "FareLattice" = some m.cls := hown
        have hi2 := (am_K_div (y := y) hi).2
        have hcel : (kc + (hCE h : Int)).toNat + 1 = (kc + (hCE (hNO h t 6) : Int)).toNat := by
          have := hr.2.2.2.2
          show _ = (kc + ((hCE h + 1 : Nat) : Int)).toNat
          omega
        have hslo : (ks + (hSL h : Int)).toNat + 6 = (ks + (hSL (hNO h t 6) : Int)).toNat := by
          have := hr.2.2.2.2
          show _ = (ks + ((hSL h + 6 : Nat) : Int)).toNat
          omega
        have hsum' : ((st.map (am_e ad)).map fun v => v.category).sum ≤ 8 := by rw [am_sum_e]; exact hsum
        have hfr : 8 ≤ R.frames ∧ 400 ≤ R.locals := by have := hr.2.2.1; have := hr.2.2.2.1; omega
        have hA := C.2.2.2.2.2.2.2.2.2.2.2.1
        have fin : ∀ (ci t9 : Nat) (X : String) (T0 : u_T), t9 = t → 13 ≤ t ∧ t ≤ 15 → am_cl14[ci]? = some (X, T0, 0) → am_xc t = X → ∀ (q : Nat) (H1 : Heap), va_P (gD G) am_cl14 (am_ws G ad h L ++ [(q, .inr (ci, []))]) H1 → va_D A (am_ws G ad h L ++ [(q, .inr (ci, []))]) → va_S A s.heap H1 locs → W p l e R s m args below meth c H1 locs ((kc + (hCE h : Int)).toNat + 1) ((ks + (hSL h : Int)).toNat + 6) Q (F0 m (pc + 7) lsM (.ref q :: st.map (am_e ad))) := by
          intro ci t9 X T0 _ ht hcl hxc q H1 hP1 hD1 hS1
          obtain ⟨S2, hok⟩ := am_Si_exc (t := t) (nf := 6) S ht hP1 hD1 hS1
          obtain ⟨r, g1, cell, g2, g3, g4, -⟩ := hP1 (am_ws G ad h L).length (q, .inr (ci, [])) (by rw [List.getElem?_append_right (Nat.le_refl _), Nat.sub_self]; rfl)
          cases Option.some.inj (g1.symm.trans hcl)
          have hfc : s.vm.findClass X = some cell.cls := by rw [g3]; exact ((C.2.2.2.2.2.2.2.2.2.1).1 ci _ hcl).2.1
          rw [hcel, hslo]
          exact vx_athrow C.1 C.2.1 (am_dec hd7) (hE ad L H1 locs S2 (fun _ _ => rfl) hok hh0 (by unfold am_isx; omega) (pc + 7) lsM (st.map (am_e ad)) cell q g2 g4 (by rw [hxc]; exact hfc))
        have hce := hr.1
        have hsl := hr.2.1
        rcases am_xn_at hx with ⟨k1, rfl, rfl⟩ | ⟨k1, rfl, rfl⟩ | ⟨k1, rfl, rfl⟩
        · have hcl : am_cl14[11]? = some ("java/lang/IndexOutOfBoundsException", TX0, 0) := rfl
          obtain ⟨kX, hkX⟩ : ∃ kX, s.vm.findClass "java/lang/IndexOutOfBoundsException" = some kX := ⟨_, ((C.2.2.2.2.2.2.2.2.2.1).1 11 _ hcl).2.1⟩
          have hik : i = 365 := by omega
          subst hik
          exact vx_make0 C.1 C.2.1 C.2.2.2.2.2.2.2.2.2.2.2.2 (own := "FareLattice") (cls := "java/lang/IndexOutOfBoundsException") (names := ["java/lang/RuntimeException", "java/lang/Exception"]) (ik := 365) (ic := 367) (ci := 11) (A := A) (T0 := TX0) hown (by decide +kernel) (by decide +kernel) (hts _ (am_w1 (i := 196) rfl rfl)) (hts _ (am_w1 (i := 10) rfl rfl)) (am_at13 hts hkX) am_atg13 hWf.2.2.1 hWf.2.2.2.1 S.2.2.2 hml (am_dec hc) (am_dec hd3) (am_dec hd4) C.2.2.2.2.2.2.2.2.2.1 S.2.1 S.2.2.1 hA hcl (by show 2 + 3 < R.frames; omega) (by show _ + (13 * (2 + 1) + 42) ≤ R.locals; omega) (by omega) (by omega) (fin 11 13 "java/lang/IndexOutOfBoundsException" TX0 rfl (by omega) hcl rfl)
        · have hcl : am_cl14[12]? = some ("java/lang/IllegalArgumentException", TX0, 0) := rfl
          obtain ⟨kX, hkX⟩ : ∃ kX, s.vm.findClass "java/lang/IllegalArgumentException" = some kX := ⟨_, ((C.2.2.2.2.2.2.2.2.2.1).1 12 _ hcl).2.1⟩
          have hik : i = 368 := by omega
          subst hik
          exact vx_make0 C.1 C.2.1 C.2.2.2.2.2.2.2.2.2.2.2.2 (own := "FareLattice") (cls := "java/lang/IllegalArgumentException") (names := ["java/lang/RuntimeException", "java/lang/Exception"]) (ik := 368) (ic := 370) (ci := 12) (A := A) (T0 := TX0) hown (by decide +kernel) (by decide +kernel) (hts _ (am_w2 (i := 26) rfl rfl)) (hts _ (am_w1 (i := 11) rfl rfl)) (am_at14 hts hkX) am_atg14 hWf.2.2.1 hWf.2.2.2.1 S.2.2.2 hml (am_dec hc) (am_dec hd3) (am_dec hd4) C.2.2.2.2.2.2.2.2.2.1 S.2.1 S.2.2.1 hA hcl (by show 2 + 3 < R.frames; omega) (by show _ + (13 * (2 + 1) + 42) ≤ R.locals; omega) (by omega) (by omega) (fin 12 14 "java/lang/IllegalArgumentException" TX0 rfl (by omega) hcl rfl)
        · have hcl : am_cl14[13]? = some ("java/lang/IllegalStateException", TX0, 0) := rfl
          obtain ⟨kX, hkX⟩ : ∃ kX, s.vm.findClass "java/lang/IllegalStateException" = some kX := ⟨_, ((C.2.2.2.2.2.2.2.2.2.1).1 13 _ hcl).2.1⟩
          have hik : i = 371 := by omega
          subst hik
          exact vx_make0 C.1 C.2.1 C.2.2.2.2.2.2.2.2.2.2.2.2 (own := "FareLattice") (cls := "java/lang/IllegalStateException") (names := ["java/lang/RuntimeException", "java/lang/Exception"]) (ik := 371) (ic := 373) (ci := 13) (A := A) (T0 := TX0) hown (by decide +kernel) (by decide +kernel) (hts _ (am_w2 (i := 48) rfl rfl)) (hts _ (am_w1 (i := 12) rfl rfl)) (am_at15 hts hkX) am_atg15 hWf.2.2.1 hWf.2.2.2.1 S.2.2.2 hml (am_dec hc) (am_dec hd3) (am_dec hd4) C.2.2.2.2.2.2.2.2.2.1 S.2.1 S.2.2.1 hA hcl (by show 2 + 3 < R.frames; omega) (by show _ + (13 * (2 + 1) + 42) ≤ R.locals; omega) (by omega) (by omega) (fin 13 15 "java/lang/IllegalStateException" TX0 rfl (by omega) hcl rfl)
      · cases hs
    · cases hs
/-! calls -/
theorem am_cs_al {y' na : Nat} {b : Bool} {x : am_S} (hs : am_cs y' na pc b st = some x) : ∃ (as rest : List am_V), x = .inr (.inl (y', as, pc, rest)) ∧ am_sum rest ≤ 8 ∧ (∀ v ∈ as, am_cat v = 1) ∧ st = as.reverse ++ rest ∧ ((b = false ∧ as.length = na) ∨ (b = true ∧ ∃ t k ar, as = aR t k :: ar ∧ ar.length = na ∧ (am_kc t = some (am_ow y') ∨ (11 < am_ow y' ∧ am_kc t = some 10)))) := by
  unfold am_cs at hs
  split at hs
  · rename_i hl
    have hcat : ∀ v ∈ (st.take na).reverse, am_cat v = 1 := by
      intro v hv
      exact am_sum_len (as := st.take na) (by rw [hl.2, List.length_take]; omega) v (List.mem_reverse.mp hv)
    split at hs
    · split at hs
      · rename_i h8
        cases hs
        exact ⟨_, _, rfl, h8, hcat, by rw [List.reverse_reverse, List.take_append_drop], Or.inl ⟨rfl, by rw [List.length_reverse, List.length_take]; omega⟩⟩
      · cases hs
    · split at hs
      · rename_i t k r hd
        split at hs
        · rename_i h8
          cases hs
          refine ⟨_, _, rfl, h8.2, ?_, ?_, Or.inr ⟨rfl, t, k, _, rfl, by rw [List.length_reverse, List.length_take]; omega, h8.1⟩⟩
          · intro v hv
            rcases List.mem_cons.mp hv with rfl | hv
            · rfl
            · exact hcat v hv
          · rw [List.reverse_cons, List.reverse_reverse, List.append_assoc]
            show st = st.take na ++ (.inr (.inl (some (t, k))) :: r)
            rw [← hd, List.take_append_drop]
        · cases hs
      · cases hs
  · cases hs
/-- it goes on -/
def am_go (x : Option am_S) : Prop := ∀ r, x ≠ some (.inr r)
theorem am_go_0 : am_go none := fun _ h => nomatch h
theorem am_go_nx : am_go (am_nx pc ls st h1) := fun _ h => nomatch h
theorem am_go_jp {off : Int} : am_go (am_jp pc off ls st h) := by
  unfold am_jp
  split
  · exact am_go_nx
  · exact am_go_0
theorem am_go_br {off : Int} {b : Prop} [Decidable b] : am_go (am_br b pc n off ls st h) := by
  unfold am_br
  split
  · split <;> exact am_go_nx
  · exact am_go_0
theorem am_go_ld {k : Nat} {c : am_V → Bool} : am_go (am_ld k pc n ls st h c) := by
  unfold am_ld
  split
  · split
    · exact am_go_nx
    · exact am_go_0
  · exact am_go_0
theorem am_go_sv {k : Nat} {c : am_V → Bool} : am_go (am_sv k pc n ls st h c) := by
  unfold am_sv
  split
  · split
    · exact am_go_nx
    · exact am_go_0
  · exact am_go_0
theorem am_go_sw {x : Int32} {dd lo hi : Int} {offs : Array Int} : am_go (am_sw pc x dd lo hi offs ls st h) := by
  unfold am_sw
  split
  · exact am_go_jp
  · split
    · exact am_go_jp
    · exact am_go_0
theorem am_go_i1 {f : Int32 → List am_V → Option am_S} (k : ∀ a r, am_go (f a r)) : am_go (am_i1 st f) := by unfold am_i1; split <;> first | exact k _ _ | exact am_go_0
theorem am_go_j1 {f : Int64 → List am_V → Option am_S} (k : ∀ a r, am_go (f a r)) : am_go (am_j1 st f) := by unfold am_j1; split <;> first | exact k _ _ | exact am_go_0
theorem am_go_d1 {f : UInt64 → List am_V → Option am_S} (k : ∀ a r, am_go (f a r)) : am_go (am_d1 st f) := by unfold am_d1; split <;> first | exact k _ _ | exact am_go_0
theorem am_go_i2 {f : Int32 → Int32 → List am_V → Option am_S} (k : ∀ a b r, am_go (f a b r)) : am_go (am_i2 st f) := by unfold am_i2; split <;> first | exact k _ _ _ | exact am_go_0
theorem am_go_r1 {f : Nat → Nat → List am_V → Option am_S} (k : ∀ a b r, am_go (f a b r)) : am_go (am_r1 st f) := by unfold am_r1; split <;> first | exact k _ _ _ | exact am_go_0
theorem am_go_ir {f : Int32 → Nat → Nat → List am_V → Option am_S} (k : ∀ i a b r, am_go (f i a b r)) : am_go (am_ir st f) := by unfold am_ir; split <;> first | exact k _ _ _ _ | exact am_go_0
def am_sp (i : Instr) : Bool := match i with
  | .new _ => true
  | .invokestatic _ => true
  | .invokevirtual _ => true
  | .invokespecial _ => true
  | .invokeinterface _ _ => true
  | .return_ => true
  | .ireturn => true
  | .freturn => true
  | .areturn => true
  | _ => false
set_option maxHeartbeats 4000000 in
theorem am_go_do {i : Instr} (hsp : am_sp i = false) : am_go (am_do y pc n ls st h i) := by
  cases i
  all_goals first
    | exact Bool.noConfusion (show true = false from hsp)
    | exact am_go_0
    | (simp only [am_do]
       repeat' first
         | exact am_go_nx
         | exact am_go_0
         | exact am_go_jp
         | exact am_go_br
         | exact am_go_ld
         | exact am_go_sv
         | exact am_go_sw
         | (refine am_go_i1 fun _ _ => ?_)
         | (refine am_go_j1 fun _ _ => ?_)
         | (refine am_go_d1 fun _ _ => ?_)
         | (refine am_go_i2 fun _ _ _ => ?_)
         | (refine am_go_r1 fun _ _ _ => ?_)
         | (refine am_go_ir fun _ _ _ _ => ?_)
         | split)
/-- a call, and what it says -/
theorem am_do_call {i : Instr} {y' pc' : Nat} {as rest : List am_V} (hs : am_do y pc n ls st h i = some (.inr (.inl (y', as, pc', rest)))) : ∃ (k kd na : Nat) (b : Bool), am_cl (am_K y k) = some (kd, y', na) ∧ am_cs y' na (pc + n) b st = some (.inr (.inl (y', as, pc', rest))) ∧
    ((i = .invokestatic k ∧ (kd = 0 ∨ kd = 10) ∧ b = false) ∨ (i = .invokevirtual k ∧ kd = 1 ∧ b = true) ∨ (i = .invokespecial k ∧ (kd = 2 ∨ kd = 12) ∧ b = true) ∨ ∃ c9, i = .invokeinterface k c9 ∧ kd = 3 ∧ b = true) := by
  cases hsp : am_sp i with
  | false => exact absurd hs (am_go_do hsp _)
  | true =>
    have put : ∀ {y0 na : Nat} {b : Bool}, am_cs y0 na (pc + n) b st = some (.inr (.inl (y', as, pc', rest))) → y0 = y' := by
      intro y0 na b h
      obtain ⟨_, _, e, -⟩ := am_cs_al h
      injection e with e
      injection e with e
      injection e with e
      exact e.symm
    cases i <;> first | exact Bool.noConfusion (show false = true from hsp) | skip
    case new k =>
      simp only [am_do] at hs
      split at hs
      · split at hs <;> cases hs
      · split at hs
        · split at hs <;> cases hs
        · cases hs
    case invokestatic k =>
      simp only [am_do] at hs
      split at hs
      · rename_i kd y0 na hf
        split at hs
        · rename_i hk
          obtain rfl := put hs
          exact ⟨k, kd, na, false, hf, hs, Or.inl ⟨rfl, hk, rfl⟩⟩
        · cases hs
      · split at hs
        · split at hs
          · split at hs <;> cases hs
          · cases hs
        · split at hs
          · split at hs
            · split at hs <;> cases hs
            · cases hs
          · cases hs
    case invokevirtual k =>
      simp only [am_do] at hs
      split at hs
      · rename_i kd y0 na hf
        split at hs
        · rename_i hk
          obtain rfl := put hs
          exact ⟨k, kd, na, true, hf, hs, Or.inr (Or.inl ⟨rfl, hk, rfl⟩)⟩
        · cases hs
      · cases hs
    case invokespecial k =>
      simp only [am_do] at hs
      split at hs
      · rename_i kd y0 na hf
        split at hs
        · rename_i hk
          obtain rfl := put hs
          exact ⟨k, kd, na, true, hf, hs, Or.inr (Or.inr (Or.inl ⟨rfl, hk, rfl⟩))⟩
        · cases hs
      · split at hs
        · exact absurd hs (am_go_r1 (fun _ _ _ => by
            split
            · exact am_go_nx
            · exact am_go_0) _)
        · cases hs
    case invokeinterface k c9 =>
      simp only [am_do] at hs
      split at hs
      · rename_i kd y0 na hf
        split at hs
        · rename_i hk
          obtain rfl := put hs
          exact ⟨k, kd, na, true, hf, hs, Or.inr (Or.inr (Or.inr ⟨c9, rfl, hk, rfl⟩))⟩
        · cases hs
      · cases hs
    case return_ =>
      simp only [am_do] at hs
      split at hs <;> cases hs
    case ireturn =>
      simp only [am_do] at hs
      split at hs
      · split at hs <;> cases hs
      · cases hs
    case freturn =>
      simp only [am_do] at hs
      split at hs
      · split at hs <;> cases hs
      · cases hs
    case areturn =>
      simp only [am_do] at hs
      split at hs
      · split at hs <;> cases hs
      · cases hs
section CALLV
variable {p : Program} {e : Env} {R : Room} {s : State} {m : MethodId} {args : Array Value} {below : List Frame} {meth : Method} {c : Code} {A : Nat → Prop} {ad : am_R → Nat} {L : List am_R} {H : Heap} {locs : List Loc} {kc ks : Int} {lsM : Array Slot} {Q : State → Prop}
theorem am_back9 {y' len : Nat} {w : am_MT} {as : List am_V} {o1 : am_O} (hw : am_mt y' = some w) (hP : am_P G l d y' o1 h1 0 (am_lo (am_ml y') as) [] h) (hcat : ∀ v ∈ as, am_cat v = 1) (hok : ∀ v ∈ as, am_okv h v) (hn : as.length ≤ am_ml y') (C : am_Cx G p l s m args meth c y A) (S : am_Si G A s.heap h ad L H locs) (hr : am_rm R kc ks (d + 1) h h') (hmo : hCE h ≤ hCE h1 ∧ hSL h ≤ hSL h1) :
    vx_Back l R p e below s args w.1 len 8 (PreOf R (hCE h1 - hCE h) (hSL h1 - hSL h) (am_Pc G A ad H as)) (PostOf (am_Qc G A ad h h1 H o1) (hCE h1 - hCE h) (hSL h1 - hSL h) A) (vx_Post (am_XC G A ad h h1 H o1) (hCE h1 - hCE h) (hSL h1 - hSL h) A) := by
  have hts := C.2.2.2.2.2.2.1
  have hM := am_met hw hP hcat hok hn ⟨S.1, S.2.1, S.2.2.1⟩ hmo C.2.2.2.2.2.2.2.2.2.2.2.2
  obtain ⟨w1, w2, w3, w4, w5, w6, w7, w8⟩ := am_mt_ok _ _ hw
  have hpay := pay_in (s := s) hts am_goodIn
  have hf1 : d + 8 + 1 ≤ R.frames := by have := hr.2.2.1; omega
  have hf2 : 8 + (w.2.2.1 + 11) + 50 * (d + 8) ≤ R.locals := by have := hr.2.2.2.1; omega
  unfold am_cw at w2
  split at w2
  · exact vx_back hM am_blind rfl rfl hf1 hf2 hpay w2 (fun a' U hW => hpay _ w3 a' U hW)
  · exact vx_backW hM am_blind rfl rfl hf1 hf2 hpay w2 (fun a' U hW => hpay _ w3 a' U hW)
theorem am_pre9 {as : List am_V} (C : am_Cx G p l s m args meth c y A) (S : am_Si G A s.heap h ad L H locs) (hr : am_rm R kc ks d h h') (hmo : hCE h ≤ hCE h1 ∧ hSL h ≤ hSL h1) (hmo2 : hCE h1 ≤ hCE h' ∧ hSL h1 ≤ hSL h') {T : State} (hT : T.heap = H) :
    ∀ vm₁, s.WarmedH vm₁ → PreOf R (hCE h1 - hCE h) (hSL h1 - hSL h) (am_Pc G A ad H as) ⟨T.setVm vm₁, locs, (kc + (hCE h : Int)).toNat, (ks + (hSL h : Int)).toNat⟩ (as.map (am_e ad)).toArray := by
  intro vm₁ hW
  refine ⟨?_, ?_, rfl, hT, va_K.moved (u := s) (U := T.setVm vm₁) hW.alike C.2.2.2.2.2.2.2.2.2.1, am_Wf.warm (s := s) (U := T.setVm vm₁) hW ((C.2.2.2.2.2.2.2.2.2.2.1).kept S.2.2.2.1 S.2.2.2.2.1), fun q hq => C.2.2.2.2.2.2.2.2.2.2.2.1 q (Nat.le_trans S.2.2.2.1 hq)⟩
  · show (kc + (hCE h : Int)).toNat + (hCE h1 - hCE h) ≤ R.cells
    have := hr.1
    have := hr.2.2.2.2
    omega
  · show (ks + (hSL h : Int)).toNat + (hSL h1 - hSL h) ≤ R.slots
    have := hr.2.1
    have := hr.2.2.2.2
    omega
end CALLV
theorem am_recv9 {p : Program} {s : State} {m : MethodId} {args : Array Value} {meth : Method} {c : Code} {A : Nat → Prop} {ad : am_R → Nat} {L : List am_R} {H : Heap} {locs : List Loc} {t q ci : Nat} (hk : am_kc t = some ci) (C : am_Cx G p l s m args meth c y A) (S : am_Si G A s.heap h ad L H locs) (hok : am_ok h (t, q)) : ∃ cell : Cell, H[ad (t, q)]? = some cell ∧ cell.vm.isStatics = false ∧ s.vm.findClass (am_cn ci) = some cell.cls := by
  have hci : ci < 11 := by
    rcases am_kc_lt t ci hk with ⟨h1, h2, h3, -⟩ | ⟨-, h3, -⟩
    · exfalso
      rcases hok with hl | e | e
      · have h4 : t < 13 ∨ 15 < t := hl.2
        omega
      · have h4 : t = 31 := congrArg Prod.fst e
        omega
      · have h4 : t = 32 := congrArg Prod.fst e
        omega
    · exact h3
  obtain ⟨C0, T, N, hcl⟩ := am_cls_at hci
  obtain ⟨q0, hq0⟩ := am_live_o S hok hk hci
  have e2 : C0 = am_cn ci := (am_clf hcl).2.2.2.2
  obtain ⟨cell, b1, b2, b3⟩ := va_recv C.2.2.2.2.2.2.2.2.2.1 S.2.1 (am_cl14_of hcl) (am_ws_o hq0 hk)
  exact ⟨cell, b1, b2, by rw [← e2]; exact b3⟩
/-- a call -/
theorem v_call {i : Instr} {y' pc' : Nat} {as rest : List am_V} {o1 : am_O} (hc : am_cd y pc = some (i, n)) (hs : am_do y pc n ls st h i = some (.inr (.inl (y', as, pc', rest)))) (hP : am_P G l d y' o1 h1 0 (am_lo (am_ml y') as) [] h) (hmo : hCE h ≤ hCE h1 ∧ hSL h ≤ hSL h1) (hmo2 : hCE h1 ≤ hCE h' ∧ hSL h1 ≤ hSL h')
    (K : match (generalizing := false) o1 with
      | .inl v => am_P G l (d + 1) y o h' pc' ls (v.toList ++ rest) h1
      | .inr q => (∃ hp k p', am_hnd (am_hh y) pc q = some hp ∧ am_hs y hp = some (k, p') ∧ k < ls.length ∧ am_P G l (d + 1) y o h' p' (ls.set k none) [] h1) ∨ (am_hh y = [] ∧ o = .inr q ∧ h' = h1)) : am_P G l (d + 1) y o h' pc ls st h := by
  obtain ⟨k, kd, na, b, hcl, hcs, hform⟩ := am_do_call hs
  obtain ⟨as', rest', e9, h8, hcat, hst, hrec⟩ := am_cs_al hcs
  have e9 : (y', as, pc', rest) = (y', as', pc + n, rest') := by injection e9 with e9; injection e9 with e9
  obtain rfl : as = as' := congrArg (fun x => x.2.1) e9
  obtain rfl : pc' = pc + n := congrArg (fun x => x.2.2.1) e9
  obtain rfl : rest = rest' := congrArg (fun x => x.2.2.2) e9
  clear e9 hcs
  obtain ⟨⟨w, hw, hwn, hwl, hwh, hwr, hwo⟩, hx⟩ := am_c2_ok _ _ hcl
  have hx1 := am_cl_ok _ _ hcl
  dsimp only at hw hwn hwl hwh hwr hwo
  obtain ⟨e1, e2, e3, e4, e5, e6, e7⟩ := am_mt_at hw
  obtain ⟨w1, w2, w3, w4, w5, w6, w7, w8⟩ := am_mt_ok _ _ hw
  intro p e R s m args below meth c A ad L H locs kc ks lsM Q C S hl hf hr hE T hT X
  have hts := C.2.2.2.2.2.2.1
  have hown := C.2.2.2.2.2.1
  have hWf := C.2.2.2.2.2.2.2.2.2.2.1
  have hKK := C.2.2.2.2.2.2.2.2.2.1
  have hd : decode c.code pc = .ok (i, n) := by rw [C.2.1]; exact am_dec hc
  have hrest : ∀ v ∈ rest, v ∈ st := fun v hv => by rw [hst]; exact List.mem_append_right _ hv
  have hok : ∀ v ∈ as, am_okv h v := fun v hv => hf.2.2 v (by rw [hst]; exact List.mem_append_left _ (List.mem_reverse.mpr hv))
  have hlen : as.length ≤ am_ml y' := by
    rw [e2]
    rcases hrec with ⟨rfl, hrl⟩ | ⟨rfl, t, kq, ar, rfl, hrl, -⟩
    · omega
    · have : kd ≠ 0 ∧ kd ≠ 10 := by
        rcases hform with ⟨-, -, hb⟩ | ⟨-, hk, -⟩ | ⟨-, hk, -⟩ | ⟨c9, -, hk, -⟩
        · cases hb
        · omega
        · omega
        · omega
      rw [if_neg (by omega)] at hwl
      rw [List.length_cons]
      omega
  have hpre := am_pre9 (as := as) C S hr hmo hmo2 hT
  have hml : lsM.size = c.maxLocals := by obtain ⟨lv, hl1, -⟩ := hl; rw [hl1.1]; exact C.2.2.2.2.1.symm
  have h8' : 2 * 0 + ((rest.map (am_e ad)).map fun v => v.category).sum ≤ 8 := by rw [am_sum_e]; omega
  have hlens : ∀ sig, parseMethodDescriptor w.1.desc = some sig → na = sig.parameters.length := by
    intro sig hsig
    rw [hsig] at w6
    have h9 : sig.parameters.length = w.2.2.2.2.2.2 := Option.some.inj w6
    omega
  have hstM : st.map (am_e ad) = (as.map (am_e ad)).reverse ++ rest.map (am_e ad) := by rw [hst, List.map_append, List.map_reverse]
  rw [hstM]
  have hcode : ∀ (hz : w.2.2.2.2.2.1 = []), (Cond.code w.1 w.2.1 w.2.2.1 w.2.2.2.1).before args s = true := fun hz => by
    have := hts _ w2
    unfold am_cw at this
    rw [hz] at this
    exact this
  rcases hform with ⟨rfl, hk, rfl⟩ | ⟨rfl, rfl, rfl⟩ | ⟨rfl, hk, rfl⟩ | ⟨c9, rfl, rfl, rfl⟩
  · obtain ⟨hn, hi⟩ := am_two (am_len hc)
    subst hn
    have hrl : as.length = na := by
      rcases hrec with ⟨-, hrl⟩ | ⟨hb, -⟩
      · exact hrl
      · cases hb
    have hlenA : ∀ sig, parseMethodDescriptor w.1.desc = some sig → (as.map (am_e ad)).length = sig.parameters.length := fun sig h => by rw [List.length_map, hrl]; exact hlens sig h
    have hK := am_back9 (e := e) (below := below) (len := 3) hw hP hcat hok hlen C S hr hmo
    refine am_call_go C S hl hf hrest hr hE hmo rfl rfl K (a := (as.map (am_e ad)).toArray) ?_
    rcases hk with rfl | rfl
    · obtain ⟨x1, x2⟩ := hx1
      dsimp only at x1 x2
      rw [e7] at x1 x2
      rw [(am_K_div hi).1, (am_K_div hi).2] at x1
      cases hz : w.2.2.2.2.2.1 with
      | nil => exact vx_callS X C.1 hown (hts _ x1) (hts _ x2) (hts _ w3) (hcode hz) w5 hK (g := F0 m pc lsM _) rfl hml (argsL := as.map (am_e ad)) (rest := rest.map (am_e ad)) hlenA rfl h8' hd hpre
      | cons z zs =>
        have hcw : (Cond.codeWith w.1 w.2.1 w.2.2.1 w.2.2.2.1 (z :: zs)).before args s = true := by
          have := hts _ w2
          unfold am_cw at this
          rw [hz] at this
          exact this
        exact vx_callSX X C.1 hown (hts _ x1) (hts _ x2) (hts _ w3) hcw w5 hK (g := F0 m pc lsM _) rfl hml (argsL := as.map (am_e ad)) (rest := rest.map (am_e ad)) hlenA rfl h8' hd hpre
    · obtain ⟨host, x1, x2⟩ := hx
      dsimp only at x1 x2
      rw [e7] at x1 x2
      rw [(am_K_div hi).1, (am_K_div hi).2] at x1
      have hNN := hWf.2.2.2.2.2.2.2.1 _ x1
      have hz : w.2.2.2.2.2.1 = [] := by rcases hwh with h | h; cases h; exact h
      exact vx_callSN X C.1 hown (va_Nw.use (A := args) rfl hNN) (hts _ x2) (hts _ w3) (hcode hz) w5 hK (g := F0 m pc lsM _) rfl hml (argsL := as.map (am_e ad)) (rest := rest.map (am_e ad)) hlenA rfl h8' hd hpre
  all_goals
    rcases hrec with ⟨hb, -⟩ | ⟨-, t, kq, ar, rfl, hrl, hkt⟩
    · cases hb
  · -- by a name
    obtain ⟨hn, hi⟩ := am_two (am_len hc)
    subst hn
    have hlenA : ∀ sig, parseMethodDescriptor w.1.desc = some sig → (ar.map (am_e ad)).length = sig.parameters.length := fun sig h => by rw [List.length_map, hrl]; exact hlens sig h
    have hK := am_back9 (e := e) (below := below) (len := 3) hw hP hcat hok hlen C S hr hmo
    refine am_call_go C S hl hf hrest hr hE hmo rfl rfl K (a := ((aR t kq :: ar).map (am_e ad)).toArray) ?_
    have hz : w.2.2.2.2.2.1 = [] := by rcases hwh with h | h; cases h; exact h
    have hokr : am_ok h (t, kq) := hok _ List.mem_cons_self _ rfl
    have hkt : am_kc t = some (am_ow y') := by
      rcases hkt with h | h
      · exact h
      · rcases hwo with h9 | h9
        · omega
        · omega
    obtain ⟨cellB, b1, b2, b3⟩ := am_recv9 hkt C S hokr
    obtain ⟨x1, x2, x3⟩ := hx1
    dsimp only at x1 x2 x3
    rw [e7] at x1 x2 x3
    rw [(am_K_div hi).1, (am_K_div hi).2] at x1
    rw [e4, ← w1] at b3
    exact vx_callV X C.1 hown (hts _ x1) (hts _ x2) (hts _ x3) (hcode hz) w5 hK (b := ad (t, kq)) (by rw [hT]; exact b1) b2 b3 (g := F0 m pc lsM _) rfl hml (argsL := ar.map (am_e ad)) (rest := rest.map (am_e ad)) hlenA (by simp [List.map_cons, am_e, va_rf]) h8' hd hpre
  · -- a constructor
    obtain ⟨hn, hi⟩ := am_two (am_len hc)
    subst hn
    have hlenA : ∀ sig, parseMethodDescriptor w.1.desc = some sig → (ar.map (am_e ad)).length = sig.parameters.length := fun sig h => by rw [List.length_map, hrl]; exact hlens sig h
    have hK := am_back9 (e := e) (below := below) (len := 3) hw hP hcat hok hlen C S hr hmo
    refine am_call_go C S hl hf hrest hr hE hmo rfl rfl K (a := ((aR t kq :: ar).map (am_e ad)).toArray) ?_
    have hz : w.2.2.2.2.2.1 = [] := by rcases hwh with h | h; omega; exact h
    have hcn : w.2.2.2.1 = none := by rcases hwr with h | h; omega; exact h
    rcases hk with rfl | rfl
    · obtain ⟨x1, x2, x3⟩ := hx1
      dsimp only at x1 x2 x3
      rw [e7] at x1 x2 x3
      rw [(am_K_div hi).1, (am_K_div hi).2] at x1
      exact vx_callI X C.1 hown x3 (hts _ x1) (hts _ x2) (hcn ▸ hcode hz) w5 hK (g := F0 m pc lsM _) rfl hml (a := ad (t, kq)) (argsL := ar.map (am_e ad)) (rest := rest.map (am_e ad)) hlenA (by simp [List.map_cons, am_e, va_rf]) h8' hd hpre
    · obtain ⟨host, x1, x2, x3⟩ := hx
      dsimp only at x1 x2 x3
      rw [e7] at x1 x2 x3
      rw [(am_K_div hi).1, (am_K_div hi).2] at x1
      have hNN := hWf.2.2.2.2.2.2.2.1 _ x1
      exact vx_callIN X C.1 hown x3 (va_Nw.use (A := args) rfl hNN) (hts _ x2) (hcn ▸ hcode hz) w5 hK (g := F0 m pc lsM _) rfl hml (a := ad (t, kq)) (argsL := ar.map (am_e ad)) (rest := rest.map (am_e ad)) hlenA (by simp [List.map_cons, am_e, va_rf]) h8' hd hpre
  · -- by List
    obtain ⟨hn, hi⟩ := am_two (am_len hc)
    subst hn
    have hK := am_back9 (e := e) (below := below) (len := 5) hw hP hcat hok hlen C S hr hmo
    refine am_call_go C S hl hf hrest hr hE hmo rfl rfl K (a := ((aR t kq :: ar).map (am_e ad)).toArray) ?_
    have hz : w.2.2.2.2.2.1 = [] := by rcases hwh with h | h; cases h; exact h
    have hokr : am_ok h (t, kq) := hok _ List.mem_cons_self _ rfl
    have hkt : am_kc t = some (am_ow y') := by
      rcases hkt with h | h
      · exact h
      · rcases hwo with h9 | h9
        · omega
        · omega
    obtain ⟨cellB, b1, b2, b3⟩ := am_recv9 hkt C S hokr
    obtain ⟨x0, x1, x2, x3, x4, x5, x6, x7⟩ := hx
    dsimp only at x1 x2 x3 x4 x6 x7
    rw [e7] at x2 x3 x4
    rw [(am_K_div hi).1, (am_K_div hi).2] at x1
    rw [x7] at b3
    have b3 : s.vm.findClass "java/util/ArrayList" = some cellB.cls := b3
    obtain ⟨kB, hkB, -⟩ := Vm.findClass_spec b3
    obtain ⟨f1, f2, f3, f4, f5⟩ := hWf.2.2.2.2.2.2.2.2.1 _ x2
    have hlenA : ∀ sig, parseMethodDescriptor x0.desc = some sig → (ar.map (am_e ad)).length = sig.parameters.length := fun sig h => by
      rw [h] at x6
      rw [List.length_map, hrl]
      exact (Option.some.inj x6).symm
    exact vx_callIF X C.1 hown (hts _ x1) (va_any rfl f1) (va_any rfl f2) (hts _ x3) (hts _ x4) (va_any rfl f3) (va_any rfl f4) (va_any rfl f5) (hcode hz) x5 hK (b := ad (t, kq)) (by rw [hT]; exact b1) b2 b3 hkB (g := F0 m pc lsM _) rfl hml (argsL := ar.map (am_e ad)) (rest := rest.map (am_e ad)) hlenA (by simp [List.map_cons, am_e, va_rf]) h8' hd hpre
end ENDS
end
