/-! ===== a throw of an exception whose constructor links its super's at a place of its own (NoSuchElementException).
The two theorems follow proofs of the library and of the kit (ctorThrowS, vx_throwS): what differs is the first link of the chain. ===== -/
abbrev amNS : String := "java/util/NoSuchElementException"
