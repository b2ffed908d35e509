abbrev amRE : String := "java/lang/RuntimeException"
