theorem g_l1000 : (1000 : Int32).toInt = 1000 := by decide +kernel
theorem g_l10000 : (10000 : Int32).toInt = 10000 := by decide +kernel
theorem g_l100000 : (100000 : Int32).toInt = 100000 := by decide +kernel
theorem g_l1000000 : (1000000 : Int32).toInt = 1000000 := by decide +kernel
