def xow (i : Int32) : Int32 := xSb.getD i.toNatClampNeg 0
