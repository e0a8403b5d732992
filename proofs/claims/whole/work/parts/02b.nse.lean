/-! NoSuchElementException: the words of its throw -/
def n13 : ByteArray := ⟨#[0x2a, 0x2b, 0xb7, 0x00, 0x0d, 0xb1]⟩
def nE : String := "java/util/NoSuchElementException"
def nR : String := "java/lang/RuntimeException"
def nX : String := "java/lang/Exception"
def n_own (own : String) (ic : Nat) : List Cond := Bundle.throwableAtoms ++ Bundle.throwableSAtoms ++ (Bundle.passSAtoms nE nR 13 n13 ++ Bundle.chainSAtoms nR [nX]) ++
  [.methodLink own ic (Bundle.initS nE), .instantiable nE 6, .castable nE nE, .selects nE Bundle.tFill0 Bundle.tFill0, .selects nE Bundle.tFill Bundle.tFill,
   .lays nE Bundle.tN "cause" "Ljava/lang/Throwable;", .lays nE Bundle.tN "stackTrace" Bundle.steD, .lays nE Bundle.tN "suppressedExceptions" Bundle.listD, .lays nE Bundle.tN "detailMessage" "Ljava/lang/String;",
   .isRef (.static Bundle.tN "UNASSIGNED_STACK" Bundle.steD), .isRef (.static Bundle.tN "SUPPRESSED_SENTINEL" Bundle.listD),
   .fieldLink Bundle.tN 198 Bundle.tN "backtrace" "Ljava/lang/Object;", .lays Bundle.tN Bundle.tN "backtrace" "Ljava/lang/Object;", .lays nE Bundle.tN "backtrace" "Ljava/lang/Object;"]
def n_at (own : String) (ic : Nat) : List Cond := (n_own own ic).filter vx_no
