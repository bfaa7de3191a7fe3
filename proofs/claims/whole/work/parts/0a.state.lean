/-! the cells of an object, in short -/
def zc_ob (q : Nat → Nat) (sb wy kd bb : Nat) (hi mi vi wb : Int32) : va_E := .inr (0, [.int (nI sb), .int (nI wy), .int (nI kd), .int (nI bb), .ref (q 1), .ref (q 2), .ref (q 3), .ref (q 4), .int hi, .int mi, .int vi, .int wb])
