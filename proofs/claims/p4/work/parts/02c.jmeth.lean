/-- where a method's words stand: code, initialized, instanceMethod (or static), selects -/
def jm_wp : List (Nat × Nat × Nat × Nat) := [(0, 0, 0, 0), (1119, 1004, 1118, 0), (5148, 1004, 5146, 5147), (3152, 1004, 3150, 3151), (4068, 1004, 4066, 4067), (4041, 1004, 4039, 4040), (4025, 1004, 4023, 4024), (3140, 1004, 3138, 3139), (3171, 1004, 3169, 3170), (3188, 1004, 3186, 3187), (3192, 1004, 3191, 3), (3175, 1004, 3174, 2), (3224, 1004, 3222, 3223), (3237, 1004, 3235, 3236), (4010, 1004, 4008, 4009), (4029, 1004, 4027, 4028), (4076, 1004, 4074, 4075), (4201, 1004, 4199, 4200), (4072, 1004, 4070, 4071), (4227, 1004, 4225, 4226), (5045, 1004, 5043, 5044), (4092, 1004, 4090, 4091), (5026, 1004, 5024, 5025), (5021, 1004, 5019, 5020), (4213, 1004, 4211, 4212), (4217, 1004, 4216, 19), (4223, 1004, 4222, 20), (4231, 1004, 4230, 21), (2206, 1012, 2205, 0), (5012, 1012, 5010, 5011), (5017, 1012, 5016, 22), (5067, 1012, 5065, 5066), (5071, 1012, 5069, 5070), (5079, 1012, 5077, 5078), (5075, 1012, 5074, 26), (5083, 1012, 5081, 5082), (5087, 1012, 5086, 27), (5093, 1012, 5092, 28), (1219, 1007, 1218, 0), (4045, 1007, 4043, 4044), (1135, 1006, 1134, 0), (3196, 1006, 3194, 3195), (3200, 1006, 3199, 4), (3213, 1006, 3212, 5), (2078, 1009, 2077, 0), (4096, 1009, 4094, 4095), (4186, 1009, 4185, 17), (4105, 1009, 4104, 7), (4124, 1009, 4122, 4123), (4120, 1009, 4119, 10), (4115, 1009, 4114, 9), (4101, 1009, 4099, 4100), (4130, 1009, 4128, 4129), (4134, 1009, 4133, 11), (4143, 1009, 4141, 4142), (4139, 1009, 4138, 12), (4178, 1009, 4176, 4177), (4182, 1009, 4181, 16), (4190, 1009, 4189, 18), (1128, 1005, 1127, 0), (3144, 1005, 3142, 3143), (3163, 1005, 3161, 3162), (3184, 1005, 3182, 3183), (3180, 1005, 3178, 3179), (4005, 1005, 4003, 4004), (2072, 1008, 2071, 0), (4053, 1008, 4051, 4052), (4084, 1008, 4082, 4083), (4088, 1008, 4087, 6), (4111, 1008, 4110, 8), (4080, 1008, 4078, 4079), (4239, 1008, 4237, 4238), (5127, 1008, 5125, 5126), (4152, 1008, 4150, 4151), (4156, 1008, 4155, 13), (4161, 1008, 4160, 14), (2167, 1010, 2166, 0), (5110, 1010, 5108, 5109), (5122, 1010, 5120, 5121), (3228, 1010, 3226, 3227), (5007, 1010, 5005, 5006), (5054, 1010, 5052, 5053), (5058, 1010, 5056, 5057), (5063, 1010, 5062, 25), (5033, 1010, 5032, 23), (5050, 1010, 5049, 24), (2173, 1011, 2172, 0), (3232, 1011, 3230, 3231), (5040, 1011, 5039, 0), (5098, 1011, 5096, 5097), (5102, 1011, 5101, 29), (5037, 1011, 5035, 5036), (1028, 1002, 1027, 0), (5152, 1002, 5150, 5151), (3102, 1002, 3101, 0), (3081, 1002, 3079, 3080), (3064, 1002, 3062, 3063), (3122, 1002, 3120, 3121), (4016, 1002, 4014, 4015), (3118, 1002, 3116, 3117), (3208, 1002, 3206, 3207), (3077, 1002, 3075, 3076), (3099, 1002, 3097, 3098), (3106, 1002, 3104, 3105), (3068, 1002, 3066, 3067), (3159, 1002, 3157, 3158), (3110, 1002, 3108, 3109), (3072, 1002, 3071, 0), (1020, 1001, 1019, 0), (3060, 1001, 3058, 3059), (3085, 1001, 3083, 3084), (3089, 1001, 3087, 3088), (3114, 1001, 3112, 3113), (3126, 1001, 3124, 3125), (3136, 1001, 3134, 3135), (3148, 1001, 3146, 3147), (3167, 1001, 3165, 3166), (3220, 1001, 3218, 3219), (4001, 1001, 3239, 4000), (4021, 1001, 4019, 4020), (4033, 1001, 4031, 4032), (4037, 1001, 4035, 4036), (4049, 1001, 4047, 4048), (4060, 1001, 4058, 4059), (4064, 1001, 4062, 4063), (4147, 1001, 4145, 4146), (4166, 1001, 4164, 4165), (4170, 1001, 4168, 4169), (4197, 1001, 4195, 4196), (4205, 1001, 4203, 4204), (4209, 1001, 4207, 4208), (4235, 1001, 4233, 4234), (5003, 1001, 5001, 5002), (5106, 1001, 5104, 5105), (5114, 1001, 5112, 5113), (5118, 1001, 5116, 5117), (5133, 1001, 5131, 5132), (5137, 1001, 5135, 5136), (5144, 1001, 5142, 5143), (3132, 1001, 3131, 0), (3129, 1001, 3128, 0), (3155, 1001, 3154, 0), (3094, 1001, 3093, 1), (4174, 1001, 4173, 15), (5157, 1013, 5156, 0), (6191, 1013, 6190, 0), (5162, 1013, 5161, 30), (6175, 1013, 6174, 0), (6207, 1013, 6206, 37), (6179, 1013, 6178, 33), (6183, 1013, 6182, 34), (6172, 1013, 6171, 32), (6168, 1013, 6167, 31), (7086, 1013, 7085, 53), (6199, 1013, 6198, 35), (6164, 1013, 6162, 6163), (6187, 1013, 6185, 6186), (6203, 1013, 6202, 36), (6195, 1013, 6193, 6194), (6211, 1013, 6209, 6210), (6217, 1013, 6215, 6216), (6229, 1013, 6228, 38), (6221, 1013, 6219, 6220), (6225, 1013, 6223, 6224), (6238, 1013, 6237, 39), (7002, 1013, 7001, 40), (6234, 1013, 6232, 6233), (7006, 1013, 7004, 7005), (7054, 1013, 7053, 45), (7018, 1013, 7017, 42), (7014, 1013, 7012, 7013), (7026, 1013, 7025, 43), (7022, 1013, 7020, 7021), (7030, 1013, 7028, 7029), (7034, 1013, 7032, 7033), (7042, 1013, 7041, 44), (7078, 1013, 7077, 51), (7082, 1013, 7081, 52), (7074, 1013, 7073, 50), (7070, 1013, 7069, 49), (7106, 1013, 7105, 58), (7102, 1013, 7101, 57), (7098, 1013, 7097, 56), (7090, 1013, 7089, 54), (7094, 1013, 7093, 55), (7167, 1013, 7166, 67), (7163, 1013, 7162, 66), (7175, 1013, 7174, 69), (7171, 1013, 7170, 68), (7159, 1013, 7158, 65), (7066, 1013, 7065, 48), (7038, 1013, 7036, 7037), (7046, 1013, 7044, 7045), (7058, 1013, 7057, 46), (7062, 1013, 7061, 47), (7050, 1013, 7048, 7049), (7114, 1013, 7113, 59), (7110, 1013, 7108, 7109), (7118, 1013, 7116, 7117), (7131, 1013, 7130, 61), (7135, 1013, 7134, 62), (7139, 1013, 7138, 63), (7143, 1013, 7142, 64), (7127, 1013, 7126, 60), (7122, 1013, 7120, 7121), (7147, 1013, 7145, 7146), (7151, 1013, 7149, 7150), (7155, 1013, 7153, 7154), (7179, 1013, 7177, 7178), (7010, 1013, 7009, 41), (7203, 1013, 7202, 74), (7195, 1013, 7194, 72), (7191, 1013, 7190, 71), (7187, 1013, 7186, 70), (7215, 1013, 7214, 77), (7221, 1013, 7220, 78), (7211, 1013, 7210, 76), (7207, 1013, 7206, 75), (7199, 1013, 7198, 73), (7225, 1013, 7224, 79), (7183, 1013, 7181, 7182), (7229, 1013, 7227, 7228), (7233, 1013, 7231, 7232), (7237, 1013, 7235, 7236), (8002, 1013, 8000, 8001), (8006, 1013, 8004, 8005), (8012, 1013, 8010, 8011), (1032, 1003, 1031, 0), (5140, 1014, 5139, 0), (3216, 1014, 3215, 0), (3204, 1014, 3203, 0)]
def jyck (y : Nat) : Bool := y == 0 || (jck (jm_wp.getD y (0, 0, 0, 0)).2.1 (Cond.initialized (jm_nm y).cls) && (plainName (jm_nm y).cls && (decide ((jm_nm y).cls = jm_cn (jm_own y)) && (decide ((jm_nm y).cls ≠ "java/lang/invoke/MethodHandle") && (decide ((jm_nm y).cls ≠ "java/lang/invoke/VarHandle") && (decide (jm_maxL y ≤ 21) && (!(jm_ini y) || decide ((jm_nm y).name = "<init>"))))))))
theorem jyck_0 : (List.range' 0 12).all jyck = true := by decide +kernel
theorem jyck_1 : (List.range' 12 12).all jyck = true := by decide +kernel
theorem jyck_2 : (List.range' 24 12).all jyck = true := by decide +kernel
theorem jyck_3 : (List.range' 36 12).all jyck = true := by decide +kernel
theorem jyck_4 : (List.range' 48 12).all jyck = true := by decide +kernel
theorem jyck_5 : (List.range' 60 12).all jyck = true := by decide +kernel
theorem jyck_6 : (List.range' 72 12).all jyck = true := by decide +kernel
theorem jyck_7 : (List.range' 84 12).all jyck = true := by decide +kernel
theorem jyck_8 : (List.range' 96 12).all jyck = true := by decide +kernel
theorem jyck_9 : (List.range' 108 12).all jyck = true := by decide +kernel
theorem jyck_10 : (List.range' 120 12).all jyck = true := by decide +kernel
theorem jyck_11 : (List.range' 132 12).all jyck = true := by decide +kernel
theorem jyck_12 : (List.range' 144 12).all jyck = true := by decide +kernel
theorem jyck_13 : (List.range' 156 12).all jyck = true := by decide +kernel
theorem jyck_14 : (List.range' 168 12).all jyck = true := by decide +kernel
theorem jyck_15 : (List.range' 180 12).all jyck = true := by decide +kernel
theorem jyck_16 : (List.range' 192 12).all jyck = true := by decide +kernel
theorem jyck_17 : (List.range' 204 12).all jyck = true := by decide +kernel
theorem jyck_18 : (List.range' 216 12).all jyck = true := by decide +kernel
theorem jyck_all : ∀ y, y < jm_n → jyck y = true := by
  intro y hy
  have hy : y < 228 := hy
  rcases Nat.lt_or_ge y 12 with h | h
  · exact List.all_eq_true.mp jyck_0 y (List.mem_range'_1.mpr ⟨by omega, by omega⟩)
  rcases Nat.lt_or_ge y 24 with h | h
  · exact List.all_eq_true.mp jyck_1 y (List.mem_range'_1.mpr ⟨by omega, by omega⟩)
  rcases Nat.lt_or_ge y 36 with h | h
  · exact List.all_eq_true.mp jyck_2 y (List.mem_range'_1.mpr ⟨by omega, by omega⟩)
  rcases Nat.lt_or_ge y 48 with h | h
  · exact List.all_eq_true.mp jyck_3 y (List.mem_range'_1.mpr ⟨by omega, by omega⟩)
  rcases Nat.lt_or_ge y 60 with h | h
  · exact List.all_eq_true.mp jyck_4 y (List.mem_range'_1.mpr ⟨by omega, by omega⟩)
  rcases Nat.lt_or_ge y 72 with h | h
  · exact List.all_eq_true.mp jyck_5 y (List.mem_range'_1.mpr ⟨by omega, by omega⟩)
  rcases Nat.lt_or_ge y 84 with h | h
  · exact List.all_eq_true.mp jyck_6 y (List.mem_range'_1.mpr ⟨by omega, by omega⟩)
  rcases Nat.lt_or_ge y 96 with h | h
  · exact List.all_eq_true.mp jyck_7 y (List.mem_range'_1.mpr ⟨by omega, by omega⟩)
  rcases Nat.lt_or_ge y 108 with h | h
  · exact List.all_eq_true.mp jyck_8 y (List.mem_range'_1.mpr ⟨by omega, by omega⟩)
  rcases Nat.lt_or_ge y 120 with h | h
  · exact List.all_eq_true.mp jyck_9 y (List.mem_range'_1.mpr ⟨by omega, by omega⟩)
  rcases Nat.lt_or_ge y 132 with h | h
  · exact List.all_eq_true.mp jyck_10 y (List.mem_range'_1.mpr ⟨by omega, by omega⟩)
  rcases Nat.lt_or_ge y 144 with h | h
  · exact List.all_eq_true.mp jyck_11 y (List.mem_range'_1.mpr ⟨by omega, by omega⟩)
  rcases Nat.lt_or_ge y 156 with h | h
  · exact List.all_eq_true.mp jyck_12 y (List.mem_range'_1.mpr ⟨by omega, by omega⟩)
  rcases Nat.lt_or_ge y 168 with h | h
  · exact List.all_eq_true.mp jyck_13 y (List.mem_range'_1.mpr ⟨by omega, by omega⟩)
  rcases Nat.lt_or_ge y 180 with h | h
  · exact List.all_eq_true.mp jyck_14 y (List.mem_range'_1.mpr ⟨by omega, by omega⟩)
  rcases Nat.lt_or_ge y 192 with h | h
  · exact List.all_eq_true.mp jyck_15 y (List.mem_range'_1.mpr ⟨by omega, by omega⟩)
  rcases Nat.lt_or_ge y 204 with h | h
  · exact List.all_eq_true.mp jyck_16 y (List.mem_range'_1.mpr ⟨by omega, by omega⟩)
  rcases Nat.lt_or_ge y 216 with h | h
  · exact List.all_eq_true.mp jyck_17 y (List.mem_range'_1.mpr ⟨by omega, by omega⟩)
  exact List.all_eq_true.mp jyck_18 y (List.mem_range'_1.mpr ⟨by omega, by omega⟩)
