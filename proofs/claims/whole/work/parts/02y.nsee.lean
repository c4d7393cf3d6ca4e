/-! The words of 'throw new NoSuchElementException(text)': its constructor passes the text on by entry 13 of its pool (RuntimeException's and Exception's by entry 7). -/
def bx_ownN (own : String) (ic : Nat) : List Cond :=
  Bundle.throwableAtoms ++ Bundle.throwableSAtoms ++ (Bundle.passSAtoms "java/util/NoSuchElementException" "java/lang/RuntimeException" 13 prog_12_method_4_code ++ Bundle.chainSAtoms "java/lang/RuntimeException" ["java/lang/Exception"]) ++
  [.methodLink own ic (Bundle.initS "java/util/NoSuchElementException"), .instantiable "java/util/NoSuchElementException" 6, .castable "java/util/NoSuchElementException" "java/util/NoSuchElementException", .selects "java/util/NoSuchElementException" Bundle.tFill0 Bundle.tFill0, .selects "java/util/NoSuchElementException" Bundle.tFill Bundle.tFill,
   .lays "java/util/NoSuchElementException" Bundle.tN "cause" "Ljava/lang/Throwable;", .lays "java/util/NoSuchElementException" Bundle.tN "stackTrace" Bundle.steD, .lays "java/util/NoSuchElementException" Bundle.tN "suppressedExceptions" Bundle.listD, .lays "java/util/NoSuchElementException" Bundle.tN "detailMessage" "Ljava/lang/String;",
   .isRef (.static Bundle.tN "UNASSIGNED_STACK" Bundle.steD), .isRef (.static Bundle.tN "SUPPRESSED_SENTINEL" Bundle.listD),
   .fieldLink Bundle.tN 198 Bundle.tN "backtrace" "Ljava/lang/Object;", .lays Bundle.tN Bundle.tN "backtrace" "Ljava/lang/Object;", .lays "java/util/NoSuchElementException" Bundle.tN "backtrace" "Ljava/lang/Object;"]
def bx_atN (own : String) (ic : Nat) : List Cond := (bx_ownN own ic).filter vx_no
