abbrev cX8_readJoined : ByteArray := prog_10_method_7_code
def yX8_readJoined : MethodName := ⟨RX8, "readJoined", "(LParlourLeaves$Tape;LParlourLeaves$House;I)Z"⟩
