theorem ST_stand (v1 : Int32) (u : XM) (h : REL u) : PRI (F_X4_stand v1) (F_X5_stand v1) u := sorry
