theorem ST_fault (v1 : Int32) (u : XM) (h : REL u) : PRI (F_X4_fault v1) (F_X5_fault v1) u := sorry
theorem ST_canal (v1 : Int32) (u : XM) (h : REL u) : PRI (F_X4_canal v1) (F_X5_canal v1) u := sorry
theorem ST_stand (v1 : Int32) (u : XM) (h : REL u) : PRI (F_X4_stand v1) (F_X5_stand v1) u := sorry
theorem ST_odds (v1 v2 v3 v4 : Int32) (u : XM) (h : REL u) : PRI (F_X4_odds v1 v2 v3 v4) (F_X5_odds v1 v2 v3 v4) u := sorry
theorem ST_mid (v1 v2 v3 : Int32) (u : XM) (h : REL u) : PRI (F_X4_mid v1 v2 v3) (F_X5_mid v1 v2 v3) u := sorry
