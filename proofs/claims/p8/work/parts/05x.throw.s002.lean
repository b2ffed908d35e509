abbrev am_rx : ByteArray := prog_33_method_4_code
