theorem gk_0_15 {β : Type} (x : Option β) : gck 0 15 x = x := rfl
theorem gk_1_15 {β : Type} (x : Option β) : gck 1 15 x = x := rfl
theorem gk_2_15 {β : Type} (x : Option β) : gck 2 15 x = x := rfl
theorem gk_3_15 {β : Type} (x : Option β) : gck 3 15 x = x := rfl
theorem gk_4_15 {β : Type} (x : Option β) : gck 4 15 x = x := rfl
theorem gk_5_15 {β : Type} (x : Option β) : gck 5 15 x = x := rfl
theorem gk_6_15 {β : Type} (x : Option β) : gck 6 15 x = x := rfl
theorem gk_7_15 {β : Type} (x : Option β) : gck 7 15 x = x := rfl
theorem gk_8_15 {β : Type} (x : Option β) : gck 8 15 x = x := rfl
theorem gk_9_15 {β : Type} (x : Option β) : gck 9 15 x = x := rfl
theorem gk_10_15 {β : Type} (x : Option β) : gck 10 15 x = x := rfl
theorem gk_11_15 {β : Type} (x : Option β) : gck 11 15 x = x := rfl
theorem gk_12_15 {β : Type} (x : Option β) : gck 12 15 x = x := rfl
theorem gk_13_15 {β : Type} (x : Option β) : gck 13 15 x = x := rfl
theorem gk_14_15 {β : Type} (x : Option β) : gck 14 15 x = x := rfl
theorem tn_0 : (0 : Int32).toNatClampNeg = 0 := rfl
theorem tn_1 : (1 : Int32).toNatClampNeg = 1 := rfl
theorem tn_2 : (2 : Int32).toNatClampNeg = 2 := rfl
theorem tn_3 : (3 : Int32).toNatClampNeg = 3 := rfl
theorem tn_4 : (4 : Int32).toNatClampNeg = 4 := rfl
theorem tn_5 : (5 : Int32).toNatClampNeg = 5 := rfl
theorem tn_6 : (6 : Int32).toNatClampNeg = 6 := rfl
theorem tn_7 : (7 : Int32).toNatClampNeg = 7 := rfl
theorem tn_8 : (8 : Int32).toNatClampNeg = 8 := rfl
theorem tn_9 : (9 : Int32).toNatClampNeg = 9 := rfl
theorem tn_10 : (10 : Int32).toNatClampNeg = 10 := rfl
theorem tn_11 : (11 : Int32).toNatClampNeg = 11 := rfl
theorem tn_12 : (12 : Int32).toNatClampNeg = 12 := rfl
theorem tn_13 : (13 : Int32).toNatClampNeg = 13 := rfl
theorem tn_14 : (14 : Int32).toNatClampNeg = 14 := rfl
theorem tn_553 : (553 : Int32).toNatClampNeg = 553 := rfl
theorem gd_6 {β : Type} (x : Option β) : gdz 6 x = x := rfl
theorem gd_100 {β : Type} (x : Option β) : gdz 100 x = x := rfl
theorem gd_1000 {β : Type} (x : Option β) : gdz 1000 x = x := rfl
