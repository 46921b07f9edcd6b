def fm_thrown (n : Nat) (st : MSt) : Option Int32 := some (qbs_thrown st)
