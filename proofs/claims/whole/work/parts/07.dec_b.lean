set_option maxRecDepth 100000 in
theorem ck_39 : chkM 39 = true := by decide +kernel
set_option maxRecDepth 100000 in
theorem ck_40 : chkM 40 = true := by decide +kernel
set_option maxRecDepth 100000 in
theorem ck_41 : chkM 41 = true := by decide +kernel
set_option maxRecDepth 100000 in
theorem ck_42 : chkM 42 = true := by decide +kernel
set_option maxRecDepth 100000 in
theorem ck_43 : chkM 43 = true := by decide +kernel
set_option maxRecDepth 100000 in
theorem ck_44 : chkM 44 = true := by decide +kernel
set_option maxRecDepth 100000 in
theorem ck_45 : chkM 45 = true := by decide +kernel
set_option maxRecDepth 100000 in
theorem ck_46 : chkM 46 = true := by decide +kernel
set_option maxRecDepth 100000 in
theorem ck_47 : chkM 47 = true := by decide +kernel
set_option maxRecDepth 100000 in
theorem ck_48 : chkM 48 = true := by decide +kernel
set_option maxRecDepth 100000 in
theorem ck_49 : chkM 49 = true := by decide +kernel
set_option maxRecDepth 100000 in
theorem ck_50 : chkM 50 = true := by decide +kernel
set_option maxRecDepth 100000 in
theorem ck_51 : chkM 51 = true := by decide +kernel
set_option maxRecDepth 100000 in
theorem ck_52 : chkM 52 = true := by decide +kernel
set_option maxRecDepth 100000 in
theorem ck_53 : chkM 53 = true := by decide +kernel
set_option maxRecDepth 100000 in
theorem ck_54 : chkM 54 = true := by decide +kernel
set_option maxRecDepth 100000 in
theorem ck_55 : chkM 55 = true := by decide +kernel
set_option maxRecDepth 100000 in
theorem ck_56 : chkM 56 = true := by decide +kernel
set_option maxRecDepth 100000 in
theorem ck_57 : chkM 57 = true := by decide +kernel
set_option maxRecDepth 100000 in
theorem ck_58 : chkM 58 = true := by decide +kernel
set_option maxRecDepth 100000 in
theorem ck_59 : chkM 59 = true := by decide +kernel
set_option maxRecDepth 100000 in
theorem ck_60 : chkM 60 = true := by decide +kernel
set_option maxRecDepth 100000 in
theorem ck_61 : chkM 61 = true := by decide +kernel
set_option maxRecDepth 100000 in
theorem ck_62 : chkM 62 = true := by decide +kernel
set_option maxRecDepth 100000 in
theorem ck_63 : chkM 63 = true := by decide +kernel
set_option maxRecDepth 100000 in
theorem ck_64 : chkM 64 = true := by decide +kernel
set_option maxRecDepth 100000 in
theorem ck_65 : chkM 65 = true := by decide +kernel
set_option maxRecDepth 100000 in
theorem ck_66 : chkM 66 = true := by decide +kernel
set_option maxRecDepth 100000 in
theorem ck_67 : chkM 67 = true := by decide +kernel
set_option maxRecDepth 100000 in
theorem ck_68 : chkM 68 = true := by decide +kernel
set_option maxRecDepth 100000 in
theorem ck_69 : chkM 69 = true := by decide +kernel
set_option maxRecDepth 100000 in
theorem ck_70 : chkM 70 = true := by decide +kernel
set_option maxRecDepth 100000 in
theorem ck_71 : chkM 71 = true := by decide +kernel
set_option maxRecDepth 100000 in
theorem ck_72 : chkM 72 = true := by decide +kernel
set_option maxRecDepth 100000 in
theorem ck_73 : chkM 73 = true := by decide +kernel
set_option maxRecDepth 100000 in
theorem ck_74 : chkM 74 = true := by decide +kernel
set_option maxRecDepth 100000 in
theorem ck_75 : chkM 75 = true := by decide +kernel
set_option maxRecDepth 100000 in
theorem ck_76 : chkM 76 = true := by decide +kernel
set_option maxRecDepth 100000 in
theorem ck_77 : chkM 77 = true := by decide +kernel
set_option maxRecDepth 100000 in
theorem ck_78 : chkM 78 = true := by decide +kernel
set_option maxRecDepth 100000 in
theorem ck_79 : chkM 79 = true := by decide +kernel
set_option maxRecDepth 100000 in
theorem ck_80 : chkM 80 = true := by decide +kernel
set_option maxRecDepth 100000 in
theorem ck_81 : chkM 81 = true := by decide +kernel
set_option maxRecDepth 100000 in
theorem ck_82 : chkM 82 = true := by decide +kernel
set_option maxRecDepth 100000 in
theorem ck_83 : chkM 83 = true := by decide +kernel
set_option maxRecDepth 100000 in
theorem ck_84 : chkM 84 = true := by decide +kernel
set_option maxRecDepth 100000 in
theorem ck_85 : chkM 85 = true := by decide +kernel
set_option maxRecDepth 100000 in
theorem ck_86 : chkM 86 = true := by decide +kernel
set_option maxRecDepth 100000 in
theorem ck_87 : chkM 87 = true := by decide +kernel
set_option maxRecDepth 100000 in
theorem ck_88 : chkM 88 = true := by decide +kernel
set_option maxRecDepth 100000 in
theorem ck_89 : chkM 89 = true := by decide +kernel
