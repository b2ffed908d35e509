/-! ===== the reference: what is shown by hand ===== -/
def bQ0 : List bEt := [be_h221, be_h234, be_h211, be_h204, be_h203]
