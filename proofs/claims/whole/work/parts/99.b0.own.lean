/-! The words that 'throw new E("text")' asks, where E's own constructor hands on by the link ix of its code rx (the classes above it by 7) -/
def vy_own (own : String) (ic : Nat) (E : String) (ix : Nat) (rx : ByteArray) (Y : String) (r : List String) : List Cond :=
  Bundle.throwableAtoms ++ Bundle.throwableSAtoms ++ (Bundle.passSAtoms E Y ix rx ++ Bundle.chainSAtoms Y r) ++
  [Cond.methodLink own ic (Bundle.initS E), Cond.instantiable E 6, Cond.castable E E, Cond.selects E Bundle.tFill0 Bundle.tFill0, Cond.selects E Bundle.tFill Bundle.tFill,
   Cond.lays E Bundle.tN "cause" "Ljava/lang/Throwable;", Cond.lays E Bundle.tN "stackTrace" Bundle.steD, Cond.lays E Bundle.tN "suppressedExceptions" Bundle.listD, Cond.lays E Bundle.tN "detailMessage" "Ljava/lang/String;",
   Cond.isRef (.static Bundle.tN "UNASSIGNED_STACK" Bundle.steD), Cond.isRef (.static Bundle.tN "SUPPRESSED_SENTINEL" Bundle.listD),
   Cond.fieldLink Bundle.tN 198 Bundle.tN "backtrace" "Ljava/lang/Object;", Cond.lays Bundle.tN Bundle.tN "backtrace" "Ljava/lang/Object;", Cond.lays E Bundle.tN "backtrace" "Ljava/lang/Object;"]
