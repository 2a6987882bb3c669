section
/-- where a method's words stand: code, initialized, instanceMethod (or static), selects -/
def jm_wp : List (Nat × Nat × Nat × Nat) := [(0, 0, 0, 0), (1119, 1004, 1118, 0), (5148, 1004, 5146, 5147), (3152, 1004, 3150, 3151), (4068, 1004, 4066, 4067), (4041, 1004, 4039, 4040), (4025, 1004, 4023, 4024), (3140, 1004, 3138, 3139), (3171, 1004, 3169, 3170), (3188, 1004, 3186, 3187), (3192, 1004, 3191, 3), (3175, 1004, 3174, 2), (3224, 1004, 3222, 3223), (3237, 1004, 3235, 3236), (4010, 1004, 4008, 4009), (4029, 1004, 4027, 4028), (4076, 1004, 4074, 4075), (4201, 1004, 4199, 4200), (4072, 1004, 4070, 4071), (4227, 1004, 4225, 4226), (5045, 1004, 5043, 5044), (4092, 1004, 4090, 4091), (5026, 1004, 5024, 5025), (5021, 1004, 5019, 5020), (4213, 1004, 4211, 4212), (4217, 1004, 4216, 19), (4223, 1004, 4222, 20), (4231, 1004, 4230, 21), (2206, 1012, 2205, 0), (5012, 1012, 5010, 5011), (5017, 1012, 5016, 22), (5067, 1012, 5065, 5066), (5071, 1012, 5069, 5070), (5079, 1012, 5077, 5078), (5075, 1012, 5074, 26), (5083, 1012, 5081, 5082), (5087, 1012, 5086, 27), (5093, 1012, 5092, 28), (1219, 1007, 1218, 0), (4045, 1007, 4043, 4044), (1135, 1006, 1134, 0), (3196, 1006, 3194, 3195), (3200, 1006, 3199, 4), (3213, 1006, 3212, 5), (2078, 1009, 2077, 0), (4096, 1009, 4094, 4095), (4186, 1009, 4185, 17), (4105, 1009, 4104, 7), (4124, 1009, 4122, 4123), (4120, 1009, 4119, 10), (4115, 1009, 4114, 9), (4101, 1009, 4099, 4100), (4130, 1009, 4128, 4129), (4134, 1009, 4133, 11), (4143, 1009, 4141, 4142), (4139, 1009, 4138, 12), (4178, 1009, 4176, 4177), (4182, 1009, 4181, 16), (4190, 1009, 4189, 18), (1128, 1005, 1127, 0), (3144, 1005, 3142, 3143), (3163, 1005, 3161, 3162), (3184, 1005, 3182, 3183), (3180, 1005, 3178, 3179), (4005, 1005, 4003, 4004), (2072, 1008, 2071, 0), (4053, 1008, 4051, 4052), (4084, 1008, 4082, 4083), (4088, 1008, 4087, 6), (4111, 1008, 4110, 8), (4080, 1008, 4078, 4079), (4239, 1008, 4237, 4238), (5127, 1008, 5125, 5126), (4152, 1008, 4150, 4151), (4156, 1008, 4155, 13), (4161, 1008, 4160, 14), (2167, 1010, 2166, 0), (5110, 1010, 5108, 5109), (5122, 1010, 5120, 5121), (3228, 1010, 3226, 3227), (5007, 1010, 5005, 5006), (5054, 1010, 5052, 5053), (5058, 1010, 5056, 5057), (5063, 1010, 5062, 25), (5033, 1010, 5032, 23), (5050, 1010, 5049, 24), (2173, 1011, 2172, 0), (3232, 1011, 3230, 3231), (5040, 1011, 5039, 0), (5098, 1011, 5096, 5097), (5102, 1011, 5101, 29), (5037, 1011, 5035, 5036), (1028, 1002, 1027, 0), (5152, 1002, 5150, 5151), (3102, 1002, 3101, 0), (3081, 1002, 3079, 3080), (3064, 1002, 3062, 3063), (3122, 1002, 3120, 3121), (4016, 1002, 4014, 4015), (3118, 1002, 3116, 3117), (3208, 1002, 3206, 3207), (3077, 1002, 3075, 3076), (3099, 1002, 3097, 3098), (3106, 1002, 3104, 3105), (3068, 1002, 3066, 3067), (3159, 1002, 3157, 3158), (3110, 1002, 3108, 3109), (3072, 1002, 3071, 0), (1020, 1001, 1019, 0), (3060, 1001, 3058, 3059), (3085, 1001, 3083, 3084), (3089, 1001, 3087, 3088), (3114, 1001, 3112, 3113), (3126, 1001, 3124, 3125), (3136, 1001, 3134, 3135), (3148, 1001, 3146, 3147), (3167, 1001, 3165, 3166), (3220, 1001, 3218, 3219), (4001, 1001, 3239, 4000), (4021, 1001, 4019, 4020), (4033, 1001, 4031, 4032), (4037, 1001, 4035, 4036), (4049, 1001, 4047, 4048), (4060, 1001, 4058, 4059), (4064, 1001, 4062, 4063), (4147, 1001, 4145, 4146), (4166, 1001, 4164, 4165), (4170, 1001, 4168, 4169), (4197, 1001, 4195, 4196), (4205, 1001, 4203, 4204), (4209, 1001, 4207, 4208), (4235, 1001, 4233, 4234), (5003, 1001, 5001, 5002), (5106, 1001, 5104, 5105), (5114, 1001, 5112, 5113), (5118, 1001, 5116, 5117), (5133, 1001, 5131, 5132), (5137, 1001, 5135, 5136), (5144, 1001, 5142, 5143), (3132, 1001, 3131, 0), (3129, 1001, 3128, 0), (3155, 1001, 3154, 0), (3094, 1001, 3093, 1), (4174, 1001, 4173, 15), (5157, 1013, 5156, 0), (6191, 1013, 6190, 0), (5162, 1013, 5161, 30), (6175, 1013, 6174, 0), (6207, 1013, 6206, 37), (6179, 1013, 6178, 33), (6183, 1013, 6182, 34), (6172, 1013, 6171, 32), (6168, 1013, 6167, 31), (7086, 1013, 7085, 53), (6199, 1013, 6198, 35), (6164, 1013, 6162, 6163), (6187, 1013, 6185, 6186), (6203, 1013, 6202, 36), (6195, 1013, 6193, 6194), (6211, 1013, 6209, 6210), (6217, 1013, 6215, 6216), (6229, 1013, 6228, 38), (6221, 1013, 6219, 6220), (6225, 1013, 6223, 6224), (6238, 1013, 6237, 39), (7002, 1013, 7001, 40), (6234, 1013, 6232, 6233), (7006, 1013, 7004, 7005), (7054, 1013, 7053, 45), (7018, 1013, 7017, 42), (7014, 1013, 7012, 7013), (7026, 1013, 7025, 43), (7022, 1013, 7020, 7021), (7030, 1013, 7028, 7029), (7034, 1013, 7032, 7033), (7042, 1013, 7041, 44), (7078, 1013, 7077, 51), (7082, 1013, 7081, 52), (7074, 1013, 7073, 50), (7070, 1013, 7069, 49), (7106, 1013, 7105, 58), (7102, 1013, 7101, 57), (7098, 1013, 7097, 56), (7090, 1013, 7089, 54), (7094, 1013, 7093, 55), (7167, 1013, 7166, 67), (7163, 1013, 7162, 66), (7175, 1013, 7174, 69), (7171, 1013, 7170, 68), (7159, 1013, 7158, 65), (7066, 1013, 7065, 48), (7038, 1013, 7036, 7037), (7046, 1013, 7044, 7045), (7058, 1013, 7057, 46), (7062, 1013, 7061, 47), (7050, 1013, 7048, 7049), (7114, 1013, 7113, 59), (7110, 1013, 7108, 7109), (7118, 1013, 7116, 7117), (7131, 1013, 7130, 61), (7135, 1013, 7134, 62), (7139, 1013, 7138, 63), (7143, 1013, 7142, 64), (7127, 1013, 7126, 60), (7122, 1013, 7120, 7121), (7147, 1013, 7145, 7146), (7151, 1013, 7149, 7150), (7155, 1013, 7153, 7154), (7179, 1013, 7177, 7178), (7010, 1013, 7009, 41), (7203, 1013, 7202, 74), (7195, 1013, 7194, 72), (7191, 1013, 7190, 71), (7187, 1013, 7186, 70), (7215, 1013, 7214, 77), (7221, 1013, 7220, 78), (7211, 1013, 7210, 76), (7207, 1013, 7206, 75), (7199, 1013, 7198, 73), (7225, 1013, 7224, 79), (7183, 1013, 7181, 7182), (7229, 1013, 7227, 7228), (7233, 1013, 7231, 7232), (7237, 1013, 7235, 7236), (8002, 1013, 8000, 8001), (8006, 1013, 8004, 8005), (8012, 1013, 8010, 8011), (1032, 1003, 1031, 0), (5140, 1014, 5139, 0), (3216, 1014, 3215, 0), (3204, 1014, 3203, 0)]
def jyck (y : Nat) : Bool := y == 0 || (jck (jm_wp.getD y (0, 0, 0, 0)).2.1 (Cond.initialized (jm_nm y).cls) && (plainName (jm_nm y).cls && (decide ((jm_nm y).cls = jm_cn (jm_own y)) && (decide ((jm_nm y).cls ≠ "java/lang/invoke/MethodHandle") && (decide ((jm_nm y).cls ≠ "java/lang/invoke/VarHandle") && (decide (jm_maxL y ≤ 21) && (!(jm_ini y) || decide ((jm_nm y).name = "<init>"))))))))
theorem jyck_0 : (List.range' 0 12).all jyck = true := by decide +kernel
theorem jyck_1 : (List.range' 12 12).all jyck = true := by decide +kernel
theorem jyck_2 : (List.range' 24 12).all jyck = true := by decide +kernel
theorem jyck_3 : (List.range' 36 12).all jyck = true := by decide +kernel
theorem jyck_4 : (List.range' 48 12).all jyck = true := by decide +kernel
theorem jyck_5 : (List.range' 60 12).all jyck = true := by decide +kernel
theorem jyck_6 : (List.range' 72 12).all jyck = true := by decide +kernel
theorem jyck_7 : (List.range' 84 12).all jyck = true := by decide +kernel
theorem jyck_8 : (List.range' 96 12).all jyck = true := by decide +kernel
theorem jyck_9 : (List.range' 108 12).all jyck = true := by decide +kernel
theorem jyck_10 : (List.range' 120 12).all jyck = true := by decide +kernel
theorem jyck_11 : (List.range' 132 12).all jyck = true := by decide +kernel
theorem jyck_12 : (List.range' 144 12).all jyck = true := by decide +kernel
theorem jyck_13 : (List.range' 156 12).all jyck = true := by decide +kernel
theorem jyck_14 : (List.range' 168 12).all jyck = true := by decide +kernel
theorem jyck_15 : (List.range' 180 12).all jyck = true := by decide +kernel
theorem jyck_16 : (List.range' 192 12).all jyck = true := by decide +kernel
theorem jyck_17 : (List.range' 204 12).all jyck = true := by decide +kernel
theorem jyck_18 : (List.range' 216 12).all jyck = true := by decide +kernel
theorem jyck_all : ∀ y, y < jm_n → jyck y = true := by
  intro y hy
  have hy : y < 228 := hy
  rcases Nat.lt_or_ge y 12 with h | h
  · exact List.all_eq_true.mp jyck_0 y (List.mem_range'_1.mpr ⟨by omega, by omega⟩)
  rcases Nat.lt_or_ge y 24 with h | h
  · exact List.all_eq_true.mp jyck_1 y (List.mem_range'_1.mpr ⟨by omega, by omega⟩)
  rcases Nat.lt_or_ge y 36 with h | h
  · exact List.all_eq_true.mp jyck_2 y (List.mem_range'_1.mpr ⟨by omega, by omega⟩)
  rcases Nat.lt_or_ge y 48 with h | h
  · exact List.all_eq_true.mp jyck_3 y (List.mem_range'_1.mpr ⟨by omega, by omega⟩)
  rcases Nat.lt_or_ge y 60 with h | h
  · exact List.all_eq_true.mp jyck_4 y (List.mem_range'_1.mpr ⟨by omega, by omega⟩)
  rcases Nat.lt_or_ge y 72 with h | h
  · exact List.all_eq_true.mp jyck_5 y (List.mem_range'_1.mpr ⟨by omega, by omega⟩)
  rcases Nat.lt_or_ge y 84 with h | h
  · exact List.all_eq_true.mp jyck_6 y (List.mem_range'_1.mpr ⟨by omega, by omega⟩)
  rcases Nat.lt_or_ge y 96 with h | h
  · exact List.all_eq_true.mp jyck_7 y (List.mem_range'_1.mpr ⟨by omega, by omega⟩)
  rcases Nat.lt_or_ge y 108 with h | h
  · exact List.all_eq_true.mp jyck_8 y (List.mem_range'_1.mpr ⟨by omega, by omega⟩)
  rcases Nat.lt_or_ge y 120 with h | h
  · exact List.all_eq_true.mp jyck_9 y (List.mem_range'_1.mpr ⟨by omega, by omega⟩)
  rcases Nat.lt_or_ge y 132 with h | h
  · exact List.all_eq_true.mp jyck_10 y (List.mem_range'_1.mpr ⟨by omega, by omega⟩)
  rcases Nat.lt_or_ge y 144 with h | h
  · exact List.all_eq_true.mp jyck_11 y (List.mem_range'_1.mpr ⟨by omega, by omega⟩)
  rcases Nat.lt_or_ge y 156 with h | h
  · exact List.all_eq_true.mp jyck_12 y (List.mem_range'_1.mpr ⟨by omega, by omega⟩)
  rcases Nat.lt_or_ge y 168 with h | h
  · exact List.all_eq_true.mp jyck_13 y (List.mem_range'_1.mpr ⟨by omega, by omega⟩)
  rcases Nat.lt_or_ge y 180 with h | h
  · exact List.all_eq_true.mp jyck_14 y (List.mem_range'_1.mpr ⟨by omega, by omega⟩)
  rcases Nat.lt_or_ge y 192 with h | h
  · exact List.all_eq_true.mp jyck_15 y (List.mem_range'_1.mpr ⟨by omega, by omega⟩)
  rcases Nat.lt_or_ge y 204 with h | h
  · exact List.all_eq_true.mp jyck_16 y (List.mem_range'_1.mpr ⟨by omega, by omega⟩)
  rcases Nat.lt_or_ge y 216 with h | h
  · exact List.all_eq_true.mp jyck_17 y (List.mem_range'_1.mpr ⟨by omega, by omega⟩)
  exact List.all_eq_true.mp jyck_18 y (List.mem_range'_1.mpr ⟨by omega, by omega⟩)
end
section
set_option maxRecDepth 100000 in
theorem jwc_1 : Cond.code jq_1.1 jq_1.2.1 jq_1.2.2.1 jq_1.2.2.2.1 ∈ jm_gw := List.mem_filter.mpr ⟨jtabs_ok 1 _ (List.mem_of_getElem? (i := 119) rfl), rfl⟩
set_option maxRecDepth 100000 in
theorem jwc_2 : Cond.code jq_2.1 jq_2.2.1 jq_2.2.2.1 jq_2.2.2.2.1 ∈ jm_gw := List.mem_filter.mpr ⟨jtabs_ok 5 _ (List.mem_of_getElem? (i := 148) rfl), rfl⟩
set_option maxRecDepth 100000 in
theorem jwc_3 : Cond.code jq_3.1 jq_3.2.1 jq_3.2.2.1 jq_3.2.2.2.1 ∈ jm_gw := List.mem_filter.mpr ⟨jtabs_ok 3 _ (List.mem_of_getElem? (i := 152) rfl), rfl⟩
set_option maxRecDepth 100000 in
theorem jwc_4 : Cond.code jq_4.1 jq_4.2.1 jq_4.2.2.1 jq_4.2.2.2.1 ∈ jm_gw := List.mem_filter.mpr ⟨jtabs_ok 4 _ (List.mem_of_getElem? (i := 68) rfl), rfl⟩
set_option maxRecDepth 100000 in
theorem jwc_5 : Cond.code jq_5.1 jq_5.2.1 jq_5.2.2.1 jq_5.2.2.2.1 ∈ jm_gw := List.mem_filter.mpr ⟨jtabs_ok 4 _ (List.mem_of_getElem? (i := 41) rfl), rfl⟩
set_option maxRecDepth 100000 in
theorem jwc_6 : Cond.code jq_6.1 jq_6.2.1 jq_6.2.2.1 jq_6.2.2.2.1 ∈ jm_gw := List.mem_filter.mpr ⟨jtabs_ok 4 _ (List.mem_of_getElem? (i := 25) rfl), rfl⟩
set_option maxRecDepth 100000 in
theorem jwc_7 : Cond.code jq_7.1 jq_7.2.1 jq_7.2.2.1 jq_7.2.2.2.1 ∈ jm_gw := List.mem_filter.mpr ⟨jtabs_ok 3 _ (List.mem_of_getElem? (i := 140) rfl), rfl⟩
set_option maxRecDepth 100000 in
theorem jwc_8 : Cond.code jq_8.1 jq_8.2.1 jq_8.2.2.1 jq_8.2.2.2.1 ∈ jm_gw := List.mem_filter.mpr ⟨jtabs_ok 3 _ (List.mem_of_getElem? (i := 171) rfl), rfl⟩
set_option maxRecDepth 100000 in
theorem jwc_9 : Cond.code jq_9.1 jq_9.2.1 jq_9.2.2.1 jq_9.2.2.2.1 ∈ jm_gw := List.mem_filter.mpr ⟨jtabs_ok 3 _ (List.mem_of_getElem? (i := 188) rfl), rfl⟩
set_option maxRecDepth 100000 in
theorem jwc_10 : Cond.code jq_10.1 jq_10.2.1 jq_10.2.2.1 jq_10.2.2.2.1 ∈ jm_gw := List.mem_filter.mpr ⟨jtabs_ok 3 _ (List.mem_of_getElem? (i := 192) rfl), rfl⟩
set_option maxRecDepth 100000 in
theorem jwc_11 : Cond.code jq_11.1 jq_11.2.1 jq_11.2.2.1 jq_11.2.2.2.1 ∈ jm_gw := List.mem_filter.mpr ⟨jtabs_ok 3 _ (List.mem_of_getElem? (i := 175) rfl), rfl⟩
set_option maxRecDepth 100000 in
theorem jwc_12 : Cond.code jq_12.1 jq_12.2.1 jq_12.2.2.1 jq_12.2.2.2.1 ∈ jm_gw := List.mem_filter.mpr ⟨jtabs_ok 3 _ (List.mem_of_getElem? (i := 224) rfl), rfl⟩
set_option maxRecDepth 100000 in
theorem jwc_13 : Cond.code jq_13.1 jq_13.2.1 jq_13.2.2.1 jq_13.2.2.2.1 ∈ jm_gw := List.mem_filter.mpr ⟨jtabs_ok 3 _ (List.mem_of_getElem? (i := 237) rfl), rfl⟩
set_option maxRecDepth 100000 in
theorem jwc_14 : Cond.code jq_14.1 jq_14.2.1 jq_14.2.2.1 jq_14.2.2.2.1 ∈ jm_gw := List.mem_filter.mpr ⟨jtabs_ok 4 _ (List.mem_of_getElem? (i := 10) rfl), rfl⟩
set_option maxRecDepth 100000 in
theorem jwc_15 : Cond.code jq_15.1 jq_15.2.1 jq_15.2.2.1 jq_15.2.2.2.1 ∈ jm_gw := List.mem_filter.mpr ⟨jtabs_ok 4 _ (List.mem_of_getElem? (i := 29) rfl), rfl⟩
set_option maxRecDepth 100000 in
theorem jwc_16 : Cond.code jq_16.1 jq_16.2.1 jq_16.2.2.1 jq_16.2.2.2.1 ∈ jm_gw := List.mem_filter.mpr ⟨jtabs_ok 4 _ (List.mem_of_getElem? (i := 76) rfl), rfl⟩
set_option maxRecDepth 100000 in
theorem jwc_17 : Cond.code jq_17.1 jq_17.2.1 jq_17.2.2.1 jq_17.2.2.2.1 ∈ jm_gw := List.mem_filter.mpr ⟨jtabs_ok 4 _ (List.mem_of_getElem? (i := 201) rfl), rfl⟩
set_option maxRecDepth 100000 in
theorem jwc_18 : Cond.code jq_18.1 jq_18.2.1 jq_18.2.2.1 jq_18.2.2.2.1 ∈ jm_gw := List.mem_filter.mpr ⟨jtabs_ok 4 _ (List.mem_of_getElem? (i := 72) rfl), rfl⟩
set_option maxRecDepth 100000 in
theorem jwc_19 : Cond.code jq_19.1 jq_19.2.1 jq_19.2.2.1 jq_19.2.2.2.1 ∈ jm_gw := List.mem_filter.mpr ⟨jtabs_ok 4 _ (List.mem_of_getElem? (i := 227) rfl), rfl⟩
set_option maxRecDepth 100000 in
theorem jwc_20 : Cond.code jq_20.1 jq_20.2.1 jq_20.2.2.1 jq_20.2.2.2.1 ∈ jm_gw := List.mem_filter.mpr ⟨jtabs_ok 5 _ (List.mem_of_getElem? (i := 45) rfl), rfl⟩
set_option maxRecDepth 100000 in
theorem jwc_21 : Cond.code jq_21.1 jq_21.2.1 jq_21.2.2.1 jq_21.2.2.2.1 ∈ jm_gw := List.mem_filter.mpr ⟨jtabs_ok 4 _ (List.mem_of_getElem? (i := 92) rfl), rfl⟩
set_option maxRecDepth 100000 in
theorem jwc_22 : Cond.code jq_22.1 jq_22.2.1 jq_22.2.2.1 jq_22.2.2.2.1 ∈ jm_gw := List.mem_filter.mpr ⟨jtabs_ok 5 _ (List.mem_of_getElem? (i := 26) rfl), rfl⟩
set_option maxRecDepth 100000 in
theorem jwc_23 : Cond.code jq_23.1 jq_23.2.1 jq_23.2.2.1 jq_23.2.2.2.1 ∈ jm_gw := List.mem_filter.mpr ⟨jtabs_ok 5 _ (List.mem_of_getElem? (i := 21) rfl), rfl⟩
set_option maxRecDepth 100000 in
theorem jwc_24 : Cond.code jq_24.1 jq_24.2.1 jq_24.2.2.1 jq_24.2.2.2.1 ∈ jm_gw := List.mem_filter.mpr ⟨jtabs_ok 4 _ (List.mem_of_getElem? (i := 213) rfl), rfl⟩
set_option maxRecDepth 100000 in
theorem jwc_25 : Cond.code jq_25.1 jq_25.2.1 jq_25.2.2.1 jq_25.2.2.2.1 ∈ jm_gw := List.mem_filter.mpr ⟨jtabs_ok 4 _ (List.mem_of_getElem? (i := 217) rfl), rfl⟩
set_option maxRecDepth 100000 in
theorem jwc_26 : Cond.code jq_26.1 jq_26.2.1 jq_26.2.2.1 jq_26.2.2.2.1 ∈ jm_gw := List.mem_filter.mpr ⟨jtabs_ok 4 _ (List.mem_of_getElem? (i := 223) rfl), rfl⟩
set_option maxRecDepth 100000 in
theorem jwc_27 : Cond.code jq_27.1 jq_27.2.1 jq_27.2.2.1 jq_27.2.2.2.1 ∈ jm_gw := List.mem_filter.mpr ⟨jtabs_ok 4 _ (List.mem_of_getElem? (i := 231) rfl), rfl⟩
set_option maxRecDepth 100000 in
theorem jwc_28 : Cond.code jq_28.1 jq_28.2.1 jq_28.2.2.1 jq_28.2.2.2.1 ∈ jm_gw := List.mem_filter.mpr ⟨jtabs_ok 2 _ (List.mem_of_getElem? (i := 206) rfl), rfl⟩
set_option maxRecDepth 100000 in
theorem jwc_29 : Cond.code jq_29.1 jq_29.2.1 jq_29.2.2.1 jq_29.2.2.2.1 ∈ jm_gw := List.mem_filter.mpr ⟨jtabs_ok 5 _ (List.mem_of_getElem? (i := 12) rfl), rfl⟩
set_option maxRecDepth 100000 in
theorem jwc_30 : Cond.code jq_30.1 jq_30.2.1 jq_30.2.2.1 jq_30.2.2.2.1 ∈ jm_gw := List.mem_filter.mpr ⟨jtabs_ok 5 _ (List.mem_of_getElem? (i := 17) rfl), rfl⟩
set_option maxRecDepth 100000 in
theorem jwc_31 : Cond.code jq_31.1 jq_31.2.1 jq_31.2.2.1 jq_31.2.2.2.1 ∈ jm_gw := List.mem_filter.mpr ⟨jtabs_ok 5 _ (List.mem_of_getElem? (i := 67) rfl), rfl⟩
set_option maxRecDepth 100000 in
theorem jwc_32 : Cond.code jq_32.1 jq_32.2.1 jq_32.2.2.1 jq_32.2.2.2.1 ∈ jm_gw := List.mem_filter.mpr ⟨jtabs_ok 5 _ (List.mem_of_getElem? (i := 71) rfl), rfl⟩
set_option maxRecDepth 100000 in
theorem jwc_33 : Cond.code jq_33.1 jq_33.2.1 jq_33.2.2.1 jq_33.2.2.2.1 ∈ jm_gw := List.mem_filter.mpr ⟨jtabs_ok 5 _ (List.mem_of_getElem? (i := 79) rfl), rfl⟩
set_option maxRecDepth 100000 in
theorem jwc_34 : Cond.code jq_34.1 jq_34.2.1 jq_34.2.2.1 jq_34.2.2.2.1 ∈ jm_gw := List.mem_filter.mpr ⟨jtabs_ok 5 _ (List.mem_of_getElem? (i := 75) rfl), rfl⟩
set_option maxRecDepth 100000 in
theorem jwc_35 : Cond.code jq_35.1 jq_35.2.1 jq_35.2.2.1 jq_35.2.2.2.1 ∈ jm_gw := List.mem_filter.mpr ⟨jtabs_ok 5 _ (List.mem_of_getElem? (i := 83) rfl), rfl⟩
set_option maxRecDepth 100000 in
theorem jwc_36 : Cond.code jq_36.1 jq_36.2.1 jq_36.2.2.1 jq_36.2.2.2.1 ∈ jm_gw := List.mem_filter.mpr ⟨jtabs_ok 5 _ (List.mem_of_getElem? (i := 87) rfl), rfl⟩
set_option maxRecDepth 100000 in
theorem jwc_37 : Cond.code jq_37.1 jq_37.2.1 jq_37.2.2.1 jq_37.2.2.2.1 ∈ jm_gw := List.mem_filter.mpr ⟨jtabs_ok 5 _ (List.mem_of_getElem? (i := 93) rfl), rfl⟩
set_option maxRecDepth 100000 in
theorem jwc_38 : Cond.code jq_38.1 jq_38.2.1 jq_38.2.2.1 jq_38.2.2.2.1 ∈ jm_gw := List.mem_filter.mpr ⟨jtabs_ok 1 _ (List.mem_of_getElem? (i := 219) rfl), rfl⟩
set_option maxRecDepth 100000 in
theorem jwc_39 : Cond.code jq_39.1 jq_39.2.1 jq_39.2.2.1 jq_39.2.2.2.1 ∈ jm_gw := List.mem_filter.mpr ⟨jtabs_ok 4 _ (List.mem_of_getElem? (i := 45) rfl), rfl⟩
set_option maxRecDepth 100000 in
theorem jwc_40 : Cond.code jq_40.1 jq_40.2.1 jq_40.2.2.1 jq_40.2.2.2.1 ∈ jm_gw := List.mem_filter.mpr ⟨jtabs_ok 1 _ (List.mem_of_getElem? (i := 135) rfl), rfl⟩
set_option maxRecDepth 100000 in
theorem jwc_41 : Cond.code jq_41.1 jq_41.2.1 jq_41.2.2.1 jq_41.2.2.2.1 ∈ jm_gw := List.mem_filter.mpr ⟨jtabs_ok 3 _ (List.mem_of_getElem? (i := 196) rfl), rfl⟩
set_option maxRecDepth 100000 in
theorem jwc_42 : Cond.code jq_42.1 jq_42.2.1 jq_42.2.2.1 jq_42.2.2.2.1 ∈ jm_gw := List.mem_filter.mpr ⟨jtabs_ok 3 _ (List.mem_of_getElem? (i := 200) rfl), rfl⟩
set_option maxRecDepth 100000 in
theorem jwc_43 : Cond.code jq_43.1 jq_43.2.1 jq_43.2.2.1 jq_43.2.2.2.1 ∈ jm_gw := List.mem_filter.mpr ⟨jtabs_ok 3 _ (List.mem_of_getElem? (i := 213) rfl), rfl⟩
set_option maxRecDepth 100000 in
theorem jwc_44 : Cond.code jq_44.1 jq_44.2.1 jq_44.2.2.1 jq_44.2.2.2.1 ∈ jm_gw := List.mem_filter.mpr ⟨jtabs_ok 2 _ (List.mem_of_getElem? (i := 78) rfl), rfl⟩
set_option maxRecDepth 100000 in
theorem jwc_45 : Cond.code jq_45.1 jq_45.2.1 jq_45.2.2.1 jq_45.2.2.2.1 ∈ jm_gw := List.mem_filter.mpr ⟨jtabs_ok 4 _ (List.mem_of_getElem? (i := 96) rfl), rfl⟩
set_option maxRecDepth 100000 in
theorem jwc_46 : Cond.code jq_46.1 jq_46.2.1 jq_46.2.2.1 jq_46.2.2.2.1 ∈ jm_gw := List.mem_filter.mpr ⟨jtabs_ok 4 _ (List.mem_of_getElem? (i := 186) rfl), rfl⟩
set_option maxRecDepth 100000 in
theorem jwc_47 : Cond.code jq_47.1 jq_47.2.1 jq_47.2.2.1 jq_47.2.2.2.1 ∈ jm_gw := List.mem_filter.mpr ⟨jtabs_ok 4 _ (List.mem_of_getElem? (i := 105) rfl), rfl⟩
set_option maxRecDepth 100000 in
theorem jwc_48 : Cond.code jq_48.1 jq_48.2.1 jq_48.2.2.1 jq_48.2.2.2.1 ∈ jm_gw := List.mem_filter.mpr ⟨jtabs_ok 4 _ (List.mem_of_getElem? (i := 124) rfl), rfl⟩
set_option maxRecDepth 100000 in
theorem jwc_49 : Cond.code jq_49.1 jq_49.2.1 jq_49.2.2.1 jq_49.2.2.2.1 ∈ jm_gw := List.mem_filter.mpr ⟨jtabs_ok 4 _ (List.mem_of_getElem? (i := 120) rfl), rfl⟩
set_option maxRecDepth 100000 in
theorem jwc_50 : Cond.code jq_50.1 jq_50.2.1 jq_50.2.2.1 jq_50.2.2.2.1 ∈ jm_gw := List.mem_filter.mpr ⟨jtabs_ok 4 _ (List.mem_of_getElem? (i := 115) rfl), rfl⟩
set_option maxRecDepth 100000 in
theorem jwc_51 : Cond.code jq_51.1 jq_51.2.1 jq_51.2.2.1 jq_51.2.2.2.1 ∈ jm_gw := List.mem_filter.mpr ⟨jtabs_ok 4 _ (List.mem_of_getElem? (i := 101) rfl), rfl⟩
set_option maxRecDepth 100000 in
theorem jwc_52 : Cond.code jq_52.1 jq_52.2.1 jq_52.2.2.1 jq_52.2.2.2.1 ∈ jm_gw := List.mem_filter.mpr ⟨jtabs_ok 4 _ (List.mem_of_getElem? (i := 130) rfl), rfl⟩
set_option maxRecDepth 100000 in
theorem jwc_53 : Cond.code jq_53.1 jq_53.2.1 jq_53.2.2.1 jq_53.2.2.2.1 ∈ jm_gw := List.mem_filter.mpr ⟨jtabs_ok 4 _ (List.mem_of_getElem? (i := 134) rfl), rfl⟩
set_option maxRecDepth 100000 in
theorem jwc_54 : Cond.code jq_54.1 jq_54.2.1 jq_54.2.2.1 jq_54.2.2.2.1 ∈ jm_gw := List.mem_filter.mpr ⟨jtabs_ok 4 _ (List.mem_of_getElem? (i := 143) rfl), rfl⟩
set_option maxRecDepth 100000 in
theorem jwc_55 : Cond.code jq_55.1 jq_55.2.1 jq_55.2.2.1 jq_55.2.2.2.1 ∈ jm_gw := List.mem_filter.mpr ⟨jtabs_ok 4 _ (List.mem_of_getElem? (i := 139) rfl), rfl⟩
set_option maxRecDepth 100000 in
theorem jwc_56 : Cond.code jq_56.1 jq_56.2.1 jq_56.2.2.1 jq_56.2.2.2.1 ∈ jm_gw := List.mem_filter.mpr ⟨jtabs_ok 4 _ (List.mem_of_getElem? (i := 178) rfl), rfl⟩
set_option maxRecDepth 100000 in
theorem jwc_57 : Cond.code jq_57.1 jq_57.2.1 jq_57.2.2.1 jq_57.2.2.2.1 ∈ jm_gw := List.mem_filter.mpr ⟨jtabs_ok 4 _ (List.mem_of_getElem? (i := 182) rfl), rfl⟩
set_option maxRecDepth 100000 in
theorem jwc_58 : Cond.code jq_58.1 jq_58.2.1 jq_58.2.2.1 jq_58.2.2.2.1 ∈ jm_gw := List.mem_filter.mpr ⟨jtabs_ok 4 _ (List.mem_of_getElem? (i := 190) rfl), rfl⟩
set_option maxRecDepth 100000 in
theorem jwc_59 : Cond.code jq_59.1 jq_59.2.1 jq_59.2.2.1 jq_59.2.2.2.1 ∈ jm_gw := List.mem_filter.mpr ⟨jtabs_ok 1 _ (List.mem_of_getElem? (i := 128) rfl), rfl⟩
set_option maxRecDepth 100000 in
theorem jwc_60 : Cond.code jq_60.1 jq_60.2.1 jq_60.2.2.1 jq_60.2.2.2.1 ∈ jm_gw := List.mem_filter.mpr ⟨jtabs_ok 3 _ (List.mem_of_getElem? (i := 144) rfl), rfl⟩
set_option maxRecDepth 100000 in
theorem jwc_61 : Cond.code jq_61.1 jq_61.2.1 jq_61.2.2.1 jq_61.2.2.2.1 ∈ jm_gw := List.mem_filter.mpr ⟨jtabs_ok 3 _ (List.mem_of_getElem? (i := 163) rfl), rfl⟩
set_option maxRecDepth 100000 in
theorem jwc_62 : Cond.code jq_62.1 jq_62.2.1 jq_62.2.2.1 jq_62.2.2.2.1 ∈ jm_gw := List.mem_filter.mpr ⟨jtabs_ok 3 _ (List.mem_of_getElem? (i := 184) rfl), rfl⟩
set_option maxRecDepth 100000 in
theorem jwc_63 : Cond.code jq_63.1 jq_63.2.1 jq_63.2.2.1 jq_63.2.2.2.1 ∈ jm_gw := List.mem_filter.mpr ⟨jtabs_ok 3 _ (List.mem_of_getElem? (i := 180) rfl), rfl⟩
set_option maxRecDepth 100000 in
theorem jwc_64 : Cond.code jq_64.1 jq_64.2.1 jq_64.2.2.1 jq_64.2.2.2.1 ∈ jm_gw := List.mem_filter.mpr ⟨jtabs_ok 4 _ (List.mem_of_getElem? (i := 5) rfl), rfl⟩
set_option maxRecDepth 100000 in
theorem jwc_65 : Cond.code jq_65.1 jq_65.2.1 jq_65.2.2.1 jq_65.2.2.2.1 ∈ jm_gw := List.mem_filter.mpr ⟨jtabs_ok 2 _ (List.mem_of_getElem? (i := 72) rfl), rfl⟩
set_option maxRecDepth 100000 in
theorem jwc_66 : Cond.code jq_66.1 jq_66.2.1 jq_66.2.2.1 jq_66.2.2.2.1 ∈ jm_gw := List.mem_filter.mpr ⟨jtabs_ok 4 _ (List.mem_of_getElem? (i := 53) rfl), rfl⟩
set_option maxRecDepth 100000 in
theorem jwc_67 : Cond.code jq_67.1 jq_67.2.1 jq_67.2.2.1 jq_67.2.2.2.1 ∈ jm_gw := List.mem_filter.mpr ⟨jtabs_ok 4 _ (List.mem_of_getElem? (i := 84) rfl), rfl⟩
set_option maxRecDepth 100000 in
theorem jwc_68 : Cond.code jq_68.1 jq_68.2.1 jq_68.2.2.1 jq_68.2.2.2.1 ∈ jm_gw := List.mem_filter.mpr ⟨jtabs_ok 4 _ (List.mem_of_getElem? (i := 88) rfl), rfl⟩
set_option maxRecDepth 100000 in
theorem jwc_69 : Cond.code jq_69.1 jq_69.2.1 jq_69.2.2.1 jq_69.2.2.2.1 ∈ jm_gw := List.mem_filter.mpr ⟨jtabs_ok 4 _ (List.mem_of_getElem? (i := 111) rfl), rfl⟩
set_option maxRecDepth 100000 in
theorem jwc_70 : Cond.code jq_70.1 jq_70.2.1 jq_70.2.2.1 jq_70.2.2.2.1 ∈ jm_gw := List.mem_filter.mpr ⟨jtabs_ok 4 _ (List.mem_of_getElem? (i := 80) rfl), rfl⟩
set_option maxRecDepth 100000 in
theorem jwc_71 : Cond.code jq_71.1 jq_71.2.1 jq_71.2.2.1 jq_71.2.2.2.1 ∈ jm_gw := List.mem_filter.mpr ⟨jtabs_ok 4 _ (List.mem_of_getElem? (i := 239) rfl), rfl⟩
set_option maxRecDepth 100000 in
theorem jwc_72 : Cond.code jq_72.1 jq_72.2.1 jq_72.2.2.1 jq_72.2.2.2.1 ∈ jm_gw := List.mem_filter.mpr ⟨jtabs_ok 5 _ (List.mem_of_getElem? (i := 127) rfl), rfl⟩
set_option maxRecDepth 100000 in
theorem jwc_73 : Cond.code jq_73.1 jq_73.2.1 jq_73.2.2.1 jq_73.2.2.2.1 ∈ jm_gw := List.mem_filter.mpr ⟨jtabs_ok 4 _ (List.mem_of_getElem? (i := 152) rfl), rfl⟩
set_option maxRecDepth 100000 in
theorem jwc_74 : Cond.code jq_74.1 jq_74.2.1 jq_74.2.2.1 jq_74.2.2.2.1 ∈ jm_gw := List.mem_filter.mpr ⟨jtabs_ok 4 _ (List.mem_of_getElem? (i := 156) rfl), rfl⟩
set_option maxRecDepth 100000 in
theorem jwc_75 : Cond.code jq_75.1 jq_75.2.1 jq_75.2.2.1 jq_75.2.2.2.1 ∈ jm_gw := List.mem_filter.mpr ⟨jtabs_ok 4 _ (List.mem_of_getElem? (i := 161) rfl), rfl⟩
set_option maxRecDepth 100000 in
theorem jwc_76 : Cond.code jq_76.1 jq_76.2.1 jq_76.2.2.1 jq_76.2.2.2.1 ∈ jm_gw := List.mem_filter.mpr ⟨jtabs_ok 2 _ (List.mem_of_getElem? (i := 167) rfl), rfl⟩
set_option maxRecDepth 100000 in
theorem jwc_77 : Cond.code jq_77.1 jq_77.2.1 jq_77.2.2.1 jq_77.2.2.2.1 ∈ jm_gw := List.mem_filter.mpr ⟨jtabs_ok 5 _ (List.mem_of_getElem? (i := 110) rfl), rfl⟩
set_option maxRecDepth 100000 in
theorem jwc_78 : Cond.code jq_78.1 jq_78.2.1 jq_78.2.2.1 jq_78.2.2.2.1 ∈ jm_gw := List.mem_filter.mpr ⟨jtabs_ok 5 _ (List.mem_of_getElem? (i := 122) rfl), rfl⟩
set_option maxRecDepth 100000 in
theorem jwc_79 : Cond.code jq_79.1 jq_79.2.1 jq_79.2.2.1 jq_79.2.2.2.1 ∈ jm_gw := List.mem_filter.mpr ⟨jtabs_ok 3 _ (List.mem_of_getElem? (i := 228) rfl), rfl⟩
set_option maxRecDepth 100000 in
theorem jwc_80 : Cond.code jq_80.1 jq_80.2.1 jq_80.2.2.1 jq_80.2.2.2.1 ∈ jm_gw := List.mem_filter.mpr ⟨jtabs_ok 5 _ (List.mem_of_getElem? (i := 7) rfl), rfl⟩
end
section
set_option maxRecDepth 100000 in
theorem jwc_81 : Cond.code jq_81.1 jq_81.2.1 jq_81.2.2.1 jq_81.2.2.2.1 ∈ jm_gw := List.mem_filter.mpr ⟨jtabs_ok 5 _ (List.mem_of_getElem? (i := 54) rfl), rfl⟩
set_option maxRecDepth 100000 in
theorem jwc_82 : Cond.code jq_82.1 jq_82.2.1 jq_82.2.2.1 jq_82.2.2.2.1 ∈ jm_gw := List.mem_filter.mpr ⟨jtabs_ok 5 _ (List.mem_of_getElem? (i := 58) rfl), rfl⟩
set_option maxRecDepth 100000 in
theorem jwc_83 : Cond.code jq_83.1 jq_83.2.1 jq_83.2.2.1 jq_83.2.2.2.1 ∈ jm_gw := List.mem_filter.mpr ⟨jtabs_ok 5 _ (List.mem_of_getElem? (i := 63) rfl), rfl⟩
set_option maxRecDepth 100000 in
theorem jwc_84 : Cond.code jq_84.1 jq_84.2.1 jq_84.2.2.1 jq_84.2.2.2.1 ∈ jm_gw := List.mem_filter.mpr ⟨jtabs_ok 5 _ (List.mem_of_getElem? (i := 33) rfl), rfl⟩
set_option maxRecDepth 100000 in
theorem jwc_85 : Cond.code jq_85.1 jq_85.2.1 jq_85.2.2.1 jq_85.2.2.2.1 ∈ jm_gw := List.mem_filter.mpr ⟨jtabs_ok 5 _ (List.mem_of_getElem? (i := 50) rfl), rfl⟩
set_option maxRecDepth 100000 in
theorem jwc_86 : Cond.code jq_86.1 jq_86.2.1 jq_86.2.2.1 jq_86.2.2.2.1 ∈ jm_gw := List.mem_filter.mpr ⟨jtabs_ok 2 _ (List.mem_of_getElem? (i := 173) rfl), rfl⟩
set_option maxRecDepth 100000 in
theorem jwc_87 : Cond.code jq_87.1 jq_87.2.1 jq_87.2.2.1 jq_87.2.2.2.1 ∈ jm_gw := List.mem_filter.mpr ⟨jtabs_ok 3 _ (List.mem_of_getElem? (i := 232) rfl), rfl⟩
set_option maxRecDepth 100000 in
theorem jwc_88 : Cond.code jq_88.1 jq_88.2.1 jq_88.2.2.1 jq_88.2.2.2.1 ∈ jm_gw := List.mem_filter.mpr ⟨jtabs_ok 5 _ (List.mem_of_getElem? (i := 40) rfl), rfl⟩
set_option maxRecDepth 100000 in
theorem jwc_89 : Cond.code jq_89.1 jq_89.2.1 jq_89.2.2.1 jq_89.2.2.2.1 ∈ jm_gw := List.mem_filter.mpr ⟨jtabs_ok 5 _ (List.mem_of_getElem? (i := 98) rfl), rfl⟩
set_option maxRecDepth 100000 in
theorem jwc_90 : Cond.code jq_90.1 jq_90.2.1 jq_90.2.2.1 jq_90.2.2.2.1 ∈ jm_gw := List.mem_filter.mpr ⟨jtabs_ok 5 _ (List.mem_of_getElem? (i := 102) rfl), rfl⟩
set_option maxRecDepth 100000 in
theorem jwc_91 : Cond.code jq_91.1 jq_91.2.1 jq_91.2.2.1 jq_91.2.2.2.1 ∈ jm_gw := List.mem_filter.mpr ⟨jtabs_ok 5 _ (List.mem_of_getElem? (i := 37) rfl), rfl⟩
set_option maxRecDepth 100000 in
theorem jwc_92 : Cond.code jq_92.1 jq_92.2.1 jq_92.2.2.1 jq_92.2.2.2.1 ∈ jm_gw := List.mem_filter.mpr ⟨jtabs_ok 1 _ (List.mem_of_getElem? (i := 28) rfl), rfl⟩
set_option maxRecDepth 100000 in
theorem jwc_93 : Cond.code jq_93.1 jq_93.2.1 jq_93.2.2.1 jq_93.2.2.2.1 ∈ jm_gw := List.mem_filter.mpr ⟨jtabs_ok 5 _ (List.mem_of_getElem? (i := 152) rfl), rfl⟩
set_option maxRecDepth 100000 in
theorem jwc_94 : Cond.code jq_94.1 jq_94.2.1 jq_94.2.2.1 jq_94.2.2.2.1 ∈ jm_gw := List.mem_filter.mpr ⟨jtabs_ok 3 _ (List.mem_of_getElem? (i := 102) rfl), rfl⟩
set_option maxRecDepth 100000 in
theorem jwc_95 : Cond.code jq_95.1 jq_95.2.1 jq_95.2.2.1 jq_95.2.2.2.1 ∈ jm_gw := List.mem_filter.mpr ⟨jtabs_ok 3 _ (List.mem_of_getElem? (i := 81) rfl), rfl⟩
set_option maxRecDepth 100000 in
theorem jwc_96 : Cond.code jq_96.1 jq_96.2.1 jq_96.2.2.1 jq_96.2.2.2.1 ∈ jm_gw := List.mem_filter.mpr ⟨jtabs_ok 3 _ (List.mem_of_getElem? (i := 64) rfl), rfl⟩
set_option maxRecDepth 100000 in
theorem jwc_97 : Cond.code jq_97.1 jq_97.2.1 jq_97.2.2.1 jq_97.2.2.2.1 ∈ jm_gw := List.mem_filter.mpr ⟨jtabs_ok 3 _ (List.mem_of_getElem? (i := 122) rfl), rfl⟩
set_option maxRecDepth 100000 in
theorem jwc_98 : Cond.code jq_98.1 jq_98.2.1 jq_98.2.2.1 jq_98.2.2.2.1 ∈ jm_gw := List.mem_filter.mpr ⟨jtabs_ok 4 _ (List.mem_of_getElem? (i := 16) rfl), rfl⟩
set_option maxRecDepth 100000 in
theorem jwc_99 : Cond.code jq_99.1 jq_99.2.1 jq_99.2.2.1 jq_99.2.2.2.1 ∈ jm_gw := List.mem_filter.mpr ⟨jtabs_ok 3 _ (List.mem_of_getElem? (i := 118) rfl), rfl⟩
set_option maxRecDepth 100000 in
theorem jwc_100 : Cond.code jq_100.1 jq_100.2.1 jq_100.2.2.1 jq_100.2.2.2.1 ∈ jm_gw := List.mem_filter.mpr ⟨jtabs_ok 3 _ (List.mem_of_getElem? (i := 208) rfl), rfl⟩
set_option maxRecDepth 100000 in
theorem jwc_101 : Cond.code jq_101.1 jq_101.2.1 jq_101.2.2.1 jq_101.2.2.2.1 ∈ jm_gw := List.mem_filter.mpr ⟨jtabs_ok 3 _ (List.mem_of_getElem? (i := 77) rfl), rfl⟩
set_option maxRecDepth 100000 in
theorem jwc_102 : Cond.code jq_102.1 jq_102.2.1 jq_102.2.2.1 jq_102.2.2.2.1 ∈ jm_gw := List.mem_filter.mpr ⟨jtabs_ok 3 _ (List.mem_of_getElem? (i := 99) rfl), rfl⟩
set_option maxRecDepth 100000 in
theorem jwc_103 : Cond.code jq_103.1 jq_103.2.1 jq_103.2.2.1 jq_103.2.2.2.1 ∈ jm_gw := List.mem_filter.mpr ⟨jtabs_ok 3 _ (List.mem_of_getElem? (i := 106) rfl), rfl⟩
set_option maxRecDepth 100000 in
theorem jwc_104 : Cond.code jq_104.1 jq_104.2.1 jq_104.2.2.1 jq_104.2.2.2.1 ∈ jm_gw := List.mem_filter.mpr ⟨jtabs_ok 3 _ (List.mem_of_getElem? (i := 68) rfl), rfl⟩
set_option maxRecDepth 100000 in
theorem jwc_105 : Cond.code jq_105.1 jq_105.2.1 jq_105.2.2.1 jq_105.2.2.2.1 ∈ jm_gw := List.mem_filter.mpr ⟨jtabs_ok 3 _ (List.mem_of_getElem? (i := 159) rfl), rfl⟩
set_option maxRecDepth 100000 in
theorem jwc_106 : Cond.code jq_106.1 jq_106.2.1 jq_106.2.2.1 jq_106.2.2.2.1 ∈ jm_gw := List.mem_filter.mpr ⟨jtabs_ok 3 _ (List.mem_of_getElem? (i := 110) rfl), rfl⟩
set_option maxRecDepth 100000 in
theorem jwc_107 : Cond.code jq_107.1 jq_107.2.1 jq_107.2.2.1 jq_107.2.2.2.1 ∈ jm_gw := List.mem_filter.mpr ⟨jtabs_ok 3 _ (List.mem_of_getElem? (i := 72) rfl), rfl⟩
set_option maxRecDepth 100000 in
theorem jwc_108 : Cond.code jq_108.1 jq_108.2.1 jq_108.2.2.1 jq_108.2.2.2.1 ∈ jm_gw := List.mem_filter.mpr ⟨jtabs_ok 1 _ (List.mem_of_getElem? (i := 20) rfl), rfl⟩
set_option maxRecDepth 100000 in
theorem jwc_109 : Cond.code jq_109.1 jq_109.2.1 jq_109.2.2.1 jq_109.2.2.2.1 ∈ jm_gw := List.mem_filter.mpr ⟨jtabs_ok 3 _ (List.mem_of_getElem? (i := 60) rfl), rfl⟩
set_option maxRecDepth 100000 in
theorem jwc_110 : Cond.code jq_110.1 jq_110.2.1 jq_110.2.2.1 jq_110.2.2.2.1 ∈ jm_gw := List.mem_filter.mpr ⟨jtabs_ok 3 _ (List.mem_of_getElem? (i := 85) rfl), rfl⟩
set_option maxRecDepth 100000 in
theorem jwc_111 : Cond.code jq_111.1 jq_111.2.1 jq_111.2.2.1 jq_111.2.2.2.1 ∈ jm_gw := List.mem_filter.mpr ⟨jtabs_ok 3 _ (List.mem_of_getElem? (i := 89) rfl), rfl⟩
set_option maxRecDepth 100000 in
theorem jwc_112 : Cond.code jq_112.1 jq_112.2.1 jq_112.2.2.1 jq_112.2.2.2.1 ∈ jm_gw := List.mem_filter.mpr ⟨jtabs_ok 3 _ (List.mem_of_getElem? (i := 114) rfl), rfl⟩
set_option maxRecDepth 100000 in
theorem jwc_113 : Cond.code jq_113.1 jq_113.2.1 jq_113.2.2.1 jq_113.2.2.2.1 ∈ jm_gw := List.mem_filter.mpr ⟨jtabs_ok 3 _ (List.mem_of_getElem? (i := 126) rfl), rfl⟩
set_option maxRecDepth 100000 in
theorem jwc_114 : Cond.code jq_114.1 jq_114.2.1 jq_114.2.2.1 jq_114.2.2.2.1 ∈ jm_gw := List.mem_filter.mpr ⟨jtabs_ok 3 _ (List.mem_of_getElem? (i := 136) rfl), rfl⟩
set_option maxRecDepth 100000 in
theorem jwc_115 : Cond.code jq_115.1 jq_115.2.1 jq_115.2.2.1 jq_115.2.2.2.1 ∈ jm_gw := List.mem_filter.mpr ⟨jtabs_ok 3 _ (List.mem_of_getElem? (i := 148) rfl), rfl⟩
set_option maxRecDepth 100000 in
theorem jwc_116 : Cond.code jq_116.1 jq_116.2.1 jq_116.2.2.1 jq_116.2.2.2.1 ∈ jm_gw := List.mem_filter.mpr ⟨jtabs_ok 3 _ (List.mem_of_getElem? (i := 167) rfl), rfl⟩
set_option maxRecDepth 100000 in
theorem jwc_117 : Cond.code jq_117.1 jq_117.2.1 jq_117.2.2.1 jq_117.2.2.2.1 ∈ jm_gw := List.mem_filter.mpr ⟨jtabs_ok 3 _ (List.mem_of_getElem? (i := 220) rfl), rfl⟩
set_option maxRecDepth 100000 in
theorem jwc_118 : Cond.code jq_118.1 jq_118.2.1 jq_118.2.2.1 jq_118.2.2.2.1 ∈ jm_gw := List.mem_filter.mpr ⟨jtabs_ok 4 _ (List.mem_of_getElem? (i := 1) rfl), rfl⟩
set_option maxRecDepth 100000 in
theorem jwc_119 : Cond.code jq_119.1 jq_119.2.1 jq_119.2.2.1 jq_119.2.2.2.1 ∈ jm_gw := List.mem_filter.mpr ⟨jtabs_ok 4 _ (List.mem_of_getElem? (i := 21) rfl), rfl⟩
set_option maxRecDepth 100000 in
theorem jwc_120 : Cond.code jq_120.1 jq_120.2.1 jq_120.2.2.1 jq_120.2.2.2.1 ∈ jm_gw := List.mem_filter.mpr ⟨jtabs_ok 4 _ (List.mem_of_getElem? (i := 33) rfl), rfl⟩
set_option maxRecDepth 100000 in
theorem jwc_121 : Cond.code jq_121.1 jq_121.2.1 jq_121.2.2.1 jq_121.2.2.2.1 ∈ jm_gw := List.mem_filter.mpr ⟨jtabs_ok 4 _ (List.mem_of_getElem? (i := 37) rfl), rfl⟩
set_option maxRecDepth 100000 in
theorem jwc_122 : Cond.code jq_122.1 jq_122.2.1 jq_122.2.2.1 jq_122.2.2.2.1 ∈ jm_gw := List.mem_filter.mpr ⟨jtabs_ok 4 _ (List.mem_of_getElem? (i := 49) rfl), rfl⟩
set_option maxRecDepth 100000 in
theorem jwc_123 : Cond.code jq_123.1 jq_123.2.1 jq_123.2.2.1 jq_123.2.2.2.1 ∈ jm_gw := List.mem_filter.mpr ⟨jtabs_ok 4 _ (List.mem_of_getElem? (i := 60) rfl), rfl⟩
set_option maxRecDepth 100000 in
theorem jwc_124 : Cond.code jq_124.1 jq_124.2.1 jq_124.2.2.1 jq_124.2.2.2.1 ∈ jm_gw := List.mem_filter.mpr ⟨jtabs_ok 4 _ (List.mem_of_getElem? (i := 64) rfl), rfl⟩
set_option maxRecDepth 100000 in
theorem jwc_125 : Cond.code jq_125.1 jq_125.2.1 jq_125.2.2.1 jq_125.2.2.2.1 ∈ jm_gw := List.mem_filter.mpr ⟨jtabs_ok 4 _ (List.mem_of_getElem? (i := 147) rfl), rfl⟩
set_option maxRecDepth 100000 in
theorem jwc_126 : Cond.code jq_126.1 jq_126.2.1 jq_126.2.2.1 jq_126.2.2.2.1 ∈ jm_gw := List.mem_filter.mpr ⟨jtabs_ok 4 _ (List.mem_of_getElem? (i := 166) rfl), rfl⟩
set_option maxRecDepth 100000 in
theorem jwc_127 : Cond.code jq_127.1 jq_127.2.1 jq_127.2.2.1 jq_127.2.2.2.1 ∈ jm_gw := List.mem_filter.mpr ⟨jtabs_ok 4 _ (List.mem_of_getElem? (i := 170) rfl), rfl⟩
set_option maxRecDepth 100000 in
theorem jwc_128 : Cond.code jq_128.1 jq_128.2.1 jq_128.2.2.1 jq_128.2.2.2.1 ∈ jm_gw := List.mem_filter.mpr ⟨jtabs_ok 4 _ (List.mem_of_getElem? (i := 197) rfl), rfl⟩
set_option maxRecDepth 100000 in
theorem jwc_129 : Cond.code jq_129.1 jq_129.2.1 jq_129.2.2.1 jq_129.2.2.2.1 ∈ jm_gw := List.mem_filter.mpr ⟨jtabs_ok 4 _ (List.mem_of_getElem? (i := 205) rfl), rfl⟩
set_option maxRecDepth 100000 in
theorem jwc_130 : Cond.code jq_130.1 jq_130.2.1 jq_130.2.2.1 jq_130.2.2.2.1 ∈ jm_gw := List.mem_filter.mpr ⟨jtabs_ok 4 _ (List.mem_of_getElem? (i := 209) rfl), rfl⟩
set_option maxRecDepth 100000 in
theorem jwc_131 : Cond.code jq_131.1 jq_131.2.1 jq_131.2.2.1 jq_131.2.2.2.1 ∈ jm_gw := List.mem_filter.mpr ⟨jtabs_ok 4 _ (List.mem_of_getElem? (i := 235) rfl), rfl⟩
set_option maxRecDepth 100000 in
theorem jwc_132 : Cond.code jq_132.1 jq_132.2.1 jq_132.2.2.1 jq_132.2.2.2.1 ∈ jm_gw := List.mem_filter.mpr ⟨jtabs_ok 5 _ (List.mem_of_getElem? (i := 3) rfl), rfl⟩
set_option maxRecDepth 100000 in
theorem jwc_133 : Cond.code jq_133.1 jq_133.2.1 jq_133.2.2.1 jq_133.2.2.2.1 ∈ jm_gw := List.mem_filter.mpr ⟨jtabs_ok 5 _ (List.mem_of_getElem? (i := 106) rfl), rfl⟩
set_option maxRecDepth 100000 in
theorem jwc_134 : Cond.code jq_134.1 jq_134.2.1 jq_134.2.2.1 jq_134.2.2.2.1 ∈ jm_gw := List.mem_filter.mpr ⟨jtabs_ok 5 _ (List.mem_of_getElem? (i := 114) rfl), rfl⟩
set_option maxRecDepth 100000 in
theorem jwc_135 : Cond.code jq_135.1 jq_135.2.1 jq_135.2.2.1 jq_135.2.2.2.1 ∈ jm_gw := List.mem_filter.mpr ⟨jtabs_ok 5 _ (List.mem_of_getElem? (i := 118) rfl), rfl⟩
set_option maxRecDepth 100000 in
theorem jwc_136 : Cond.code jq_136.1 jq_136.2.1 jq_136.2.2.1 jq_136.2.2.2.1 ∈ jm_gw := List.mem_filter.mpr ⟨jtabs_ok 5 _ (List.mem_of_getElem? (i := 133) rfl), rfl⟩
set_option maxRecDepth 100000 in
theorem jwc_137 : Cond.code jq_137.1 jq_137.2.1 jq_137.2.2.1 jq_137.2.2.2.1 ∈ jm_gw := List.mem_filter.mpr ⟨jtabs_ok 5 _ (List.mem_of_getElem? (i := 137) rfl), rfl⟩
set_option maxRecDepth 100000 in
theorem jwc_138 : Cond.code jq_138.1 jq_138.2.1 jq_138.2.2.1 jq_138.2.2.2.1 ∈ jm_gw := List.mem_filter.mpr ⟨jtabs_ok 5 _ (List.mem_of_getElem? (i := 144) rfl), rfl⟩
set_option maxRecDepth 100000 in
theorem jwc_139 : Cond.code jq_139.1 jq_139.2.1 jq_139.2.2.1 jq_139.2.2.2.1 ∈ jm_gw := List.mem_filter.mpr ⟨jtabs_ok 3 _ (List.mem_of_getElem? (i := 132) rfl), rfl⟩
set_option maxRecDepth 100000 in
theorem jwc_140 : Cond.code jq_140.1 jq_140.2.1 jq_140.2.2.1 jq_140.2.2.2.1 ∈ jm_gw := List.mem_filter.mpr ⟨jtabs_ok 3 _ (List.mem_of_getElem? (i := 129) rfl), rfl⟩
set_option maxRecDepth 100000 in
theorem jwc_141 : Cond.code jq_141.1 jq_141.2.1 jq_141.2.2.1 jq_141.2.2.2.1 ∈ jm_gw := List.mem_filter.mpr ⟨jtabs_ok 3 _ (List.mem_of_getElem? (i := 155) rfl), rfl⟩
set_option maxRecDepth 100000 in
theorem jwc_142 : Cond.code jq_142.1 jq_142.2.1 jq_142.2.2.1 jq_142.2.2.2.1 ∈ jm_gw := List.mem_filter.mpr ⟨jtabs_ok 3 _ (List.mem_of_getElem? (i := 94) rfl), rfl⟩
set_option maxRecDepth 100000 in
theorem jwc_143 : Cond.code jq_143.1 jq_143.2.1 jq_143.2.2.1 jq_143.2.2.2.1 ∈ jm_gw := List.mem_filter.mpr ⟨jtabs_ok 4 _ (List.mem_of_getElem? (i := 174) rfl), rfl⟩
set_option maxRecDepth 100000 in
theorem jwc_144 : Cond.code jq_144.1 jq_144.2.1 jq_144.2.2.1 jq_144.2.2.2.1 ∈ jm_gw := List.mem_filter.mpr ⟨jtabs_ok 5 _ (List.mem_of_getElem? (i := 157) rfl), rfl⟩
set_option maxRecDepth 100000 in
theorem jwc_145 : Cond.code jq_145.1 jq_145.2.1 jq_145.2.2.1 jq_145.2.2.2.1 ∈ jm_gw := List.mem_filter.mpr ⟨jtabs_ok 6 _ (List.mem_of_getElem? (i := 191) rfl), rfl⟩
set_option maxRecDepth 100000 in
theorem jwc_146 : Cond.code jq_146.1 jq_146.2.1 jq_146.2.2.1 jq_146.2.2.2.1 ∈ jm_gw := List.mem_filter.mpr ⟨jtabs_ok 5 _ (List.mem_of_getElem? (i := 162) rfl), rfl⟩
set_option maxRecDepth 100000 in
theorem jwc_147 : Cond.code jq_147.1 jq_147.2.1 jq_147.2.2.1 jq_147.2.2.2.1 ∈ jm_gw := List.mem_filter.mpr ⟨jtabs_ok 6 _ (List.mem_of_getElem? (i := 175) rfl), rfl⟩
set_option maxRecDepth 100000 in
theorem jwc_148 : Cond.code jq_148.1 jq_148.2.1 jq_148.2.2.1 jq_148.2.2.2.1 ∈ jm_gw := List.mem_filter.mpr ⟨jtabs_ok 6 _ (List.mem_of_getElem? (i := 207) rfl), rfl⟩
set_option maxRecDepth 100000 in
theorem jwc_149 : Cond.code jq_149.1 jq_149.2.1 jq_149.2.2.1 jq_149.2.2.2.1 ∈ jm_gw := List.mem_filter.mpr ⟨jtabs_ok 6 _ (List.mem_of_getElem? (i := 179) rfl), rfl⟩
set_option maxRecDepth 100000 in
theorem jwc_150 : Cond.code jq_150.1 jq_150.2.1 jq_150.2.2.1 jq_150.2.2.2.1 ∈ jm_gw := List.mem_filter.mpr ⟨jtabs_ok 6 _ (List.mem_of_getElem? (i := 183) rfl), rfl⟩
set_option maxRecDepth 100000 in
theorem jwc_151 : Cond.code jq_151.1 jq_151.2.1 jq_151.2.2.1 jq_151.2.2.2.1 ∈ jm_gw := List.mem_filter.mpr ⟨jtabs_ok 6 _ (List.mem_of_getElem? (i := 172) rfl), rfl⟩
set_option maxRecDepth 100000 in
theorem jwc_152 : Cond.code jq_152.1 jq_152.2.1 jq_152.2.2.1 jq_152.2.2.2.1 ∈ jm_gw := List.mem_filter.mpr ⟨jtabs_ok 6 _ (List.mem_of_getElem? (i := 168) rfl), rfl⟩
set_option maxRecDepth 100000 in
theorem jwc_153 : Cond.code jq_153.1 jq_153.2.1 jq_153.2.2.1 jq_153.2.2.2.1 ∈ jm_gw := List.mem_filter.mpr ⟨jtabs_ok 7 _ (List.mem_of_getElem? (i := 86) rfl), rfl⟩
set_option maxRecDepth 100000 in
theorem jwc_154 : Cond.code jq_154.1 jq_154.2.1 jq_154.2.2.1 jq_154.2.2.2.1 ∈ jm_gw := List.mem_filter.mpr ⟨jtabs_ok 6 _ (List.mem_of_getElem? (i := 199) rfl), rfl⟩
set_option maxRecDepth 100000 in
theorem jwc_155 : Cond.code jq_155.1 jq_155.2.1 jq_155.2.2.1 jq_155.2.2.2.1 ∈ jm_gw := List.mem_filter.mpr ⟨jtabs_ok 6 _ (List.mem_of_getElem? (i := 164) rfl), rfl⟩
set_option maxRecDepth 100000 in
theorem jwc_156 : Cond.code jq_156.1 jq_156.2.1 jq_156.2.2.1 jq_156.2.2.2.1 ∈ jm_gw := List.mem_filter.mpr ⟨jtabs_ok 6 _ (List.mem_of_getElem? (i := 187) rfl), rfl⟩
set_option maxRecDepth 100000 in
theorem jwc_157 : Cond.code jq_157.1 jq_157.2.1 jq_157.2.2.1 jq_157.2.2.2.1 ∈ jm_gw := List.mem_filter.mpr ⟨jtabs_ok 6 _ (List.mem_of_getElem? (i := 203) rfl), rfl⟩
set_option maxRecDepth 100000 in
theorem jwc_158 : Cond.code jq_158.1 jq_158.2.1 jq_158.2.2.1 jq_158.2.2.2.1 ∈ jm_gw := List.mem_filter.mpr ⟨jtabs_ok 6 _ (List.mem_of_getElem? (i := 195) rfl), rfl⟩
set_option maxRecDepth 100000 in
theorem jwc_159 : Cond.code jq_159.1 jq_159.2.1 jq_159.2.2.1 jq_159.2.2.2.1 ∈ jm_gw := List.mem_filter.mpr ⟨jtabs_ok 6 _ (List.mem_of_getElem? (i := 211) rfl), rfl⟩
set_option maxRecDepth 100000 in
theorem jwc_160 : Cond.code jq_160.1 jq_160.2.1 jq_160.2.2.1 jq_160.2.2.2.1 ∈ jm_gw := List.mem_filter.mpr ⟨jtabs_ok 6 _ (List.mem_of_getElem? (i := 217) rfl), rfl⟩
end
section
set_option maxRecDepth 100000 in
theorem jwc_161 : Cond.code jq_161.1 jq_161.2.1 jq_161.2.2.1 jq_161.2.2.2.1 ∈ jm_gw := List.mem_filter.mpr ⟨jtabs_ok 6 _ (List.mem_of_getElem? (i := 229) rfl), rfl⟩
set_option maxRecDepth 100000 in
theorem jwc_162 : Cond.code jq_162.1 jq_162.2.1 jq_162.2.2.1 jq_162.2.2.2.1 ∈ jm_gw := List.mem_filter.mpr ⟨jtabs_ok 6 _ (List.mem_of_getElem? (i := 221) rfl), rfl⟩
set_option maxRecDepth 100000 in
theorem jwc_163 : Cond.code jq_163.1 jq_163.2.1 jq_163.2.2.1 jq_163.2.2.2.1 ∈ jm_gw := List.mem_filter.mpr ⟨jtabs_ok 6 _ (List.mem_of_getElem? (i := 225) rfl), rfl⟩
set_option maxRecDepth 100000 in
theorem jwc_164 : Cond.code jq_164.1 jq_164.2.1 jq_164.2.2.1 jq_164.2.2.2.1 ∈ jm_gw := List.mem_filter.mpr ⟨jtabs_ok 6 _ (List.mem_of_getElem? (i := 238) rfl), rfl⟩
set_option maxRecDepth 100000 in
theorem jwc_165 : Cond.code jq_165.1 jq_165.2.1 jq_165.2.2.1 jq_165.2.2.2.1 ∈ jm_gw := List.mem_filter.mpr ⟨jtabs_ok 7 _ (List.mem_of_getElem? (i := 2) rfl), rfl⟩
set_option maxRecDepth 100000 in
theorem jwc_166 : Cond.code jq_166.1 jq_166.2.1 jq_166.2.2.1 jq_166.2.2.2.1 ∈ jm_gw := List.mem_filter.mpr ⟨jtabs_ok 6 _ (List.mem_of_getElem? (i := 234) rfl), rfl⟩
set_option maxRecDepth 100000 in
theorem jwc_167 : Cond.code jq_167.1 jq_167.2.1 jq_167.2.2.1 jq_167.2.2.2.1 ∈ jm_gw := List.mem_filter.mpr ⟨jtabs_ok 7 _ (List.mem_of_getElem? (i := 6) rfl), rfl⟩
set_option maxRecDepth 100000 in
theorem jwc_168 : Cond.code jq_168.1 jq_168.2.1 jq_168.2.2.1 jq_168.2.2.2.1 ∈ jm_gw := List.mem_filter.mpr ⟨jtabs_ok 7 _ (List.mem_of_getElem? (i := 54) rfl), rfl⟩
set_option maxRecDepth 100000 in
theorem jwc_169 : Cond.code jq_169.1 jq_169.2.1 jq_169.2.2.1 jq_169.2.2.2.1 ∈ jm_gw := List.mem_filter.mpr ⟨jtabs_ok 7 _ (List.mem_of_getElem? (i := 18) rfl), rfl⟩
set_option maxRecDepth 100000 in
theorem jwc_170 : Cond.code jq_170.1 jq_170.2.1 jq_170.2.2.1 jq_170.2.2.2.1 ∈ jm_gw := List.mem_filter.mpr ⟨jtabs_ok 7 _ (List.mem_of_getElem? (i := 14) rfl), rfl⟩
set_option maxRecDepth 100000 in
theorem jwc_171 : Cond.code jq_171.1 jq_171.2.1 jq_171.2.2.1 jq_171.2.2.2.1 ∈ jm_gw := List.mem_filter.mpr ⟨jtabs_ok 7 _ (List.mem_of_getElem? (i := 26) rfl), rfl⟩
set_option maxRecDepth 100000 in
theorem jwc_172 : Cond.code jq_172.1 jq_172.2.1 jq_172.2.2.1 jq_172.2.2.2.1 ∈ jm_gw := List.mem_filter.mpr ⟨jtabs_ok 7 _ (List.mem_of_getElem? (i := 22) rfl), rfl⟩
set_option maxRecDepth 100000 in
theorem jwc_173 : Cond.code jq_173.1 jq_173.2.1 jq_173.2.2.1 jq_173.2.2.2.1 ∈ jm_gw := List.mem_filter.mpr ⟨jtabs_ok 7 _ (List.mem_of_getElem? (i := 30) rfl), rfl⟩
set_option maxRecDepth 100000 in
theorem jwc_174 : Cond.code jq_174.1 jq_174.2.1 jq_174.2.2.1 jq_174.2.2.2.1 ∈ jm_gw := List.mem_filter.mpr ⟨jtabs_ok 7 _ (List.mem_of_getElem? (i := 34) rfl), rfl⟩
set_option maxRecDepth 100000 in
theorem jwc_175 : Cond.code jq_175.1 jq_175.2.1 jq_175.2.2.1 jq_175.2.2.2.1 ∈ jm_gw := List.mem_filter.mpr ⟨jtabs_ok 7 _ (List.mem_of_getElem? (i := 42) rfl), rfl⟩
set_option maxRecDepth 100000 in
theorem jwc_176 : Cond.code jq_176.1 jq_176.2.1 jq_176.2.2.1 jq_176.2.2.2.1 ∈ jm_gw := List.mem_filter.mpr ⟨jtabs_ok 7 _ (List.mem_of_getElem? (i := 78) rfl), rfl⟩
set_option maxRecDepth 100000 in
theorem jwc_177 : Cond.code jq_177.1 jq_177.2.1 jq_177.2.2.1 jq_177.2.2.2.1 ∈ jm_gw := List.mem_filter.mpr ⟨jtabs_ok 7 _ (List.mem_of_getElem? (i := 82) rfl), rfl⟩
set_option maxRecDepth 100000 in
theorem jwc_178 : Cond.code jq_178.1 jq_178.2.1 jq_178.2.2.1 jq_178.2.2.2.1 ∈ jm_gw := List.mem_filter.mpr ⟨jtabs_ok 7 _ (List.mem_of_getElem? (i := 74) rfl), rfl⟩
set_option maxRecDepth 100000 in
theorem jwc_179 : Cond.code jq_179.1 jq_179.2.1 jq_179.2.2.1 jq_179.2.2.2.1 ∈ jm_gw := List.mem_filter.mpr ⟨jtabs_ok 7 _ (List.mem_of_getElem? (i := 70) rfl), rfl⟩
set_option maxRecDepth 100000 in
theorem jwc_180 : Cond.code jq_180.1 jq_180.2.1 jq_180.2.2.1 jq_180.2.2.2.1 ∈ jm_gw := List.mem_filter.mpr ⟨jtabs_ok 7 _ (List.mem_of_getElem? (i := 106) rfl), rfl⟩
set_option maxRecDepth 100000 in
theorem jwc_181 : Cond.code jq_181.1 jq_181.2.1 jq_181.2.2.1 jq_181.2.2.2.1 ∈ jm_gw := List.mem_filter.mpr ⟨jtabs_ok 7 _ (List.mem_of_getElem? (i := 102) rfl), rfl⟩
set_option maxRecDepth 100000 in
theorem jwc_182 : Cond.code jq_182.1 jq_182.2.1 jq_182.2.2.1 jq_182.2.2.2.1 ∈ jm_gw := List.mem_filter.mpr ⟨jtabs_ok 7 _ (List.mem_of_getElem? (i := 98) rfl), rfl⟩
set_option maxRecDepth 100000 in
theorem jwc_183 : Cond.code jq_183.1 jq_183.2.1 jq_183.2.2.1 jq_183.2.2.2.1 ∈ jm_gw := List.mem_filter.mpr ⟨jtabs_ok 7 _ (List.mem_of_getElem? (i := 90) rfl), rfl⟩
set_option maxRecDepth 100000 in
theorem jwc_184 : Cond.code jq_184.1 jq_184.2.1 jq_184.2.2.1 jq_184.2.2.2.1 ∈ jm_gw := List.mem_filter.mpr ⟨jtabs_ok 7 _ (List.mem_of_getElem? (i := 94) rfl), rfl⟩
set_option maxRecDepth 100000 in
theorem jwc_185 : Cond.code jq_185.1 jq_185.2.1 jq_185.2.2.1 jq_185.2.2.2.1 ∈ jm_gw := List.mem_filter.mpr ⟨jtabs_ok 7 _ (List.mem_of_getElem? (i := 167) rfl), rfl⟩
set_option maxRecDepth 100000 in
theorem jwc_186 : Cond.code jq_186.1 jq_186.2.1 jq_186.2.2.1 jq_186.2.2.2.1 ∈ jm_gw := List.mem_filter.mpr ⟨jtabs_ok 7 _ (List.mem_of_getElem? (i := 163) rfl), rfl⟩
set_option maxRecDepth 100000 in
theorem jwc_187 : Cond.code jq_187.1 jq_187.2.1 jq_187.2.2.1 jq_187.2.2.2.1 ∈ jm_gw := List.mem_filter.mpr ⟨jtabs_ok 7 _ (List.mem_of_getElem? (i := 175) rfl), rfl⟩
set_option maxRecDepth 100000 in
theorem jwc_188 : Cond.code jq_188.1 jq_188.2.1 jq_188.2.2.1 jq_188.2.2.2.1 ∈ jm_gw := List.mem_filter.mpr ⟨jtabs_ok 7 _ (List.mem_of_getElem? (i := 171) rfl), rfl⟩
set_option maxRecDepth 100000 in
theorem jwc_189 : Cond.code jq_189.1 jq_189.2.1 jq_189.2.2.1 jq_189.2.2.2.1 ∈ jm_gw := List.mem_filter.mpr ⟨jtabs_ok 7 _ (List.mem_of_getElem? (i := 159) rfl), rfl⟩
set_option maxRecDepth 100000 in
theorem jwc_190 : Cond.code jq_190.1 jq_190.2.1 jq_190.2.2.1 jq_190.2.2.2.1 ∈ jm_gw := List.mem_filter.mpr ⟨jtabs_ok 7 _ (List.mem_of_getElem? (i := 66) rfl), rfl⟩
set_option maxRecDepth 100000 in
theorem jwc_191 : Cond.code jq_191.1 jq_191.2.1 jq_191.2.2.1 jq_191.2.2.2.1 ∈ jm_gw := List.mem_filter.mpr ⟨jtabs_ok 7 _ (List.mem_of_getElem? (i := 38) rfl), rfl⟩
set_option maxRecDepth 100000 in
theorem jwc_192 : Cond.code jq_192.1 jq_192.2.1 jq_192.2.2.1 jq_192.2.2.2.1 ∈ jm_gw := List.mem_filter.mpr ⟨jtabs_ok 7 _ (List.mem_of_getElem? (i := 46) rfl), rfl⟩
set_option maxRecDepth 100000 in
theorem jwc_193 : Cond.code jq_193.1 jq_193.2.1 jq_193.2.2.1 jq_193.2.2.2.1 ∈ jm_gw := List.mem_filter.mpr ⟨jtabs_ok 7 _ (List.mem_of_getElem? (i := 58) rfl), rfl⟩
set_option maxRecDepth 100000 in
theorem jwc_194 : Cond.code jq_194.1 jq_194.2.1 jq_194.2.2.1 jq_194.2.2.2.1 ∈ jm_gw := List.mem_filter.mpr ⟨jtabs_ok 7 _ (List.mem_of_getElem? (i := 62) rfl), rfl⟩
set_option maxRecDepth 100000 in
theorem jwc_195 : Cond.code jq_195.1 jq_195.2.1 jq_195.2.2.1 jq_195.2.2.2.1 ∈ jm_gw := List.mem_filter.mpr ⟨jtabs_ok 7 _ (List.mem_of_getElem? (i := 50) rfl), rfl⟩
set_option maxRecDepth 100000 in
theorem jwc_196 : Cond.code jq_196.1 jq_196.2.1 jq_196.2.2.1 jq_196.2.2.2.1 ∈ jm_gw := List.mem_filter.mpr ⟨jtabs_ok 7 _ (List.mem_of_getElem? (i := 114) rfl), rfl⟩
set_option maxRecDepth 100000 in
theorem jwc_197 : Cond.code jq_197.1 jq_197.2.1 jq_197.2.2.1 jq_197.2.2.2.1 ∈ jm_gw := List.mem_filter.mpr ⟨jtabs_ok 7 _ (List.mem_of_getElem? (i := 110) rfl), rfl⟩
set_option maxRecDepth 100000 in
theorem jwc_198 : Cond.code jq_198.1 jq_198.2.1 jq_198.2.2.1 jq_198.2.2.2.1 ∈ jm_gw := List.mem_filter.mpr ⟨jtabs_ok 7 _ (List.mem_of_getElem? (i := 118) rfl), rfl⟩
set_option maxRecDepth 100000 in
theorem jwc_199 : Cond.code jq_199.1 jq_199.2.1 jq_199.2.2.1 jq_199.2.2.2.1 ∈ jm_gw := List.mem_filter.mpr ⟨jtabs_ok 7 _ (List.mem_of_getElem? (i := 131) rfl), rfl⟩
set_option maxRecDepth 100000 in
theorem jwc_200 : Cond.code jq_200.1 jq_200.2.1 jq_200.2.2.1 jq_200.2.2.2.1 ∈ jm_gw := List.mem_filter.mpr ⟨jtabs_ok 7 _ (List.mem_of_getElem? (i := 135) rfl), rfl⟩
set_option maxRecDepth 100000 in
theorem jwc_201 : Cond.code jq_201.1 jq_201.2.1 jq_201.2.2.1 jq_201.2.2.2.1 ∈ jm_gw := List.mem_filter.mpr ⟨jtabs_ok 7 _ (List.mem_of_getElem? (i := 139) rfl), rfl⟩
set_option maxRecDepth 100000 in
theorem jwc_202 : Cond.code jq_202.1 jq_202.2.1 jq_202.2.2.1 jq_202.2.2.2.1 ∈ jm_gw := List.mem_filter.mpr ⟨jtabs_ok 7 _ (List.mem_of_getElem? (i := 143) rfl), rfl⟩
set_option maxRecDepth 100000 in
theorem jwc_203 : Cond.code jq_203.1 jq_203.2.1 jq_203.2.2.1 jq_203.2.2.2.1 ∈ jm_gw := List.mem_filter.mpr ⟨jtabs_ok 7 _ (List.mem_of_getElem? (i := 127) rfl), rfl⟩
set_option maxRecDepth 100000 in
theorem jwc_204 : Cond.code jq_204.1 jq_204.2.1 jq_204.2.2.1 jq_204.2.2.2.1 ∈ jm_gw := List.mem_filter.mpr ⟨jtabs_ok 7 _ (List.mem_of_getElem? (i := 122) rfl), rfl⟩
set_option maxRecDepth 100000 in
theorem jwc_205 : Cond.code jq_205.1 jq_205.2.1 jq_205.2.2.1 jq_205.2.2.2.1 ∈ jm_gw := List.mem_filter.mpr ⟨jtabs_ok 7 _ (List.mem_of_getElem? (i := 147) rfl), rfl⟩
set_option maxRecDepth 100000 in
theorem jwc_206 : Cond.code jq_206.1 jq_206.2.1 jq_206.2.2.1 jq_206.2.2.2.1 ∈ jm_gw := List.mem_filter.mpr ⟨jtabs_ok 7 _ (List.mem_of_getElem? (i := 151) rfl), rfl⟩
set_option maxRecDepth 100000 in
theorem jwc_207 : Cond.code jq_207.1 jq_207.2.1 jq_207.2.2.1 jq_207.2.2.2.1 ∈ jm_gw := List.mem_filter.mpr ⟨jtabs_ok 7 _ (List.mem_of_getElem? (i := 155) rfl), rfl⟩
set_option maxRecDepth 100000 in
theorem jwc_208 : Cond.code jq_208.1 jq_208.2.1 jq_208.2.2.1 jq_208.2.2.2.1 ∈ jm_gw := List.mem_filter.mpr ⟨jtabs_ok 7 _ (List.mem_of_getElem? (i := 179) rfl), rfl⟩
set_option maxRecDepth 100000 in
theorem jwc_209 : Cond.code jq_209.1 jq_209.2.1 jq_209.2.2.1 jq_209.2.2.2.1 ∈ jm_gw := List.mem_filter.mpr ⟨jtabs_ok 7 _ (List.mem_of_getElem? (i := 10) rfl), rfl⟩
set_option maxRecDepth 100000 in
theorem jwc_210 : Cond.code jq_210.1 jq_210.2.1 jq_210.2.2.1 jq_210.2.2.2.1 ∈ jm_gw := List.mem_filter.mpr ⟨jtabs_ok 7 _ (List.mem_of_getElem? (i := 203) rfl), rfl⟩
set_option maxRecDepth 100000 in
theorem jwc_211 : Cond.code jq_211.1 jq_211.2.1 jq_211.2.2.1 jq_211.2.2.2.1 ∈ jm_gw := List.mem_filter.mpr ⟨jtabs_ok 7 _ (List.mem_of_getElem? (i := 195) rfl), rfl⟩
set_option maxRecDepth 100000 in
theorem jwc_212 : Cond.code jq_212.1 jq_212.2.1 jq_212.2.2.1 jq_212.2.2.2.1 ∈ jm_gw := List.mem_filter.mpr ⟨jtabs_ok 7 _ (List.mem_of_getElem? (i := 191) rfl), rfl⟩
set_option maxRecDepth 100000 in
theorem jwc_213 : Cond.code jq_213.1 jq_213.2.1 jq_213.2.2.1 jq_213.2.2.2.1 ∈ jm_gw := List.mem_filter.mpr ⟨jtabs_ok 7 _ (List.mem_of_getElem? (i := 187) rfl), rfl⟩
set_option maxRecDepth 100000 in
theorem jwc_214 : Cond.code jq_214.1 jq_214.2.1 jq_214.2.2.1 jq_214.2.2.2.1 ∈ jm_gw := List.mem_filter.mpr ⟨jtabs_ok 7 _ (List.mem_of_getElem? (i := 215) rfl), rfl⟩
set_option maxRecDepth 100000 in
theorem jwc_215 : Cond.code jq_215.1 jq_215.2.1 jq_215.2.2.1 jq_215.2.2.2.1 ∈ jm_gw := List.mem_filter.mpr ⟨jtabs_ok 7 _ (List.mem_of_getElem? (i := 221) rfl), rfl⟩
set_option maxRecDepth 100000 in
theorem jwc_216 : Cond.code jq_216.1 jq_216.2.1 jq_216.2.2.1 jq_216.2.2.2.1 ∈ jm_gw := List.mem_filter.mpr ⟨jtabs_ok 7 _ (List.mem_of_getElem? (i := 211) rfl), rfl⟩
set_option maxRecDepth 100000 in
theorem jwc_217 : Cond.code jq_217.1 jq_217.2.1 jq_217.2.2.1 jq_217.2.2.2.1 ∈ jm_gw := List.mem_filter.mpr ⟨jtabs_ok 7 _ (List.mem_of_getElem? (i := 207) rfl), rfl⟩
set_option maxRecDepth 100000 in
theorem jwc_218 : Cond.code jq_218.1 jq_218.2.1 jq_218.2.2.1 jq_218.2.2.2.1 ∈ jm_gw := List.mem_filter.mpr ⟨jtabs_ok 7 _ (List.mem_of_getElem? (i := 199) rfl), rfl⟩
set_option maxRecDepth 100000 in
theorem jwc_219 : Cond.code jq_219.1 jq_219.2.1 jq_219.2.2.1 jq_219.2.2.2.1 ∈ jm_gw := List.mem_filter.mpr ⟨jtabs_ok 7 _ (List.mem_of_getElem? (i := 225) rfl), rfl⟩
set_option maxRecDepth 100000 in
theorem jwc_220 : Cond.code jq_220.1 jq_220.2.1 jq_220.2.2.1 jq_220.2.2.2.1 ∈ jm_gw := List.mem_filter.mpr ⟨jtabs_ok 7 _ (List.mem_of_getElem? (i := 183) rfl), rfl⟩
set_option maxRecDepth 100000 in
theorem jwc_221 : Cond.code jq_221.1 jq_221.2.1 jq_221.2.2.1 jq_221.2.2.2.1 ∈ jm_gw := List.mem_filter.mpr ⟨jtabs_ok 7 _ (List.mem_of_getElem? (i := 229) rfl), rfl⟩
set_option maxRecDepth 100000 in
theorem jwc_222 : Cond.code jq_222.1 jq_222.2.1 jq_222.2.2.1 jq_222.2.2.2.1 ∈ jm_gw := List.mem_filter.mpr ⟨jtabs_ok 7 _ (List.mem_of_getElem? (i := 233) rfl), rfl⟩
set_option maxRecDepth 100000 in
theorem jwc_223 : Cond.code jq_223.1 jq_223.2.1 jq_223.2.2.1 jq_223.2.2.2.1 ∈ jm_gw := List.mem_filter.mpr ⟨jtabs_ok 7 _ (List.mem_of_getElem? (i := 237) rfl), rfl⟩
set_option maxRecDepth 100000 in
theorem jwc_224 : Cond.code jq_224.1 jq_224.2.1 jq_224.2.2.1 jq_224.2.2.2.1 ∈ jm_gw := List.mem_filter.mpr ⟨jtabs_ok 8 _ (List.mem_of_getElem? (i := 2) rfl), rfl⟩
set_option maxRecDepth 100000 in
theorem jwc_225 : Cond.code jq_225.1 jq_225.2.1 jq_225.2.2.1 jq_225.2.2.2.1 ∈ jm_gw := List.mem_filter.mpr ⟨jtabs_ok 8 _ (List.mem_of_getElem? (i := 6) rfl), rfl⟩
set_option maxRecDepth 100000 in
theorem jwc_226 : Cond.code jq_226.1 jq_226.2.1 jq_226.2.2.1 jq_226.2.2.2.1 ∈ jm_gw := List.mem_filter.mpr ⟨jtabs_ok 8 _ (List.mem_of_getElem? (i := 12) rfl), rfl⟩
set_option maxRecDepth 100000 in
theorem jwc_227 : Cond.code jq_227.1 jq_227.2.1 jq_227.2.2.1 jq_227.2.2.2.1 ∈ jm_gw := List.mem_filter.mpr ⟨jtabs_ok 1 _ (List.mem_of_getElem? (i := 32) rfl), rfl⟩
set_option maxRecDepth 100000 in
theorem jwc_228 : Cond.code jq_228.1 jq_228.2.1 jq_228.2.2.1 jq_228.2.2.2.1 ∈ jm_gw := List.mem_filter.mpr ⟨jtabs_ok 5 _ (List.mem_of_getElem? (i := 140) rfl), rfl⟩
set_option maxRecDepth 100000 in
theorem jwc_229 : Cond.code jq_229.1 jq_229.2.1 jq_229.2.2.1 jq_229.2.2.2.1 ∈ jm_gw := List.mem_filter.mpr ⟨jtabs_ok 3 _ (List.mem_of_getElem? (i := 216) rfl), rfl⟩
set_option maxRecDepth 100000 in
theorem jwc_230 : Cond.code jq_230.1 jq_230.2.1 jq_230.2.2.1 jq_230.2.2.2.1 ∈ jm_gw := List.mem_filter.mpr ⟨jtabs_ok 3 _ (List.mem_of_getElem? (i := 204) rfl), rfl⟩
set_option maxRecDepth 100000 in
theorem jwc_all : ∀ q ∈ jm_L.drop 1, Cond.code q.1 q.2.1 q.2.2.1 q.2.2.2.1 ∈ jm_gw := by
  intro q hq
  have hq : q ∈ [jq_1, jq_2, jq_3, jq_4, jq_5, jq_6, jq_7, jq_8, jq_9, jq_10, jq_11, jq_12, jq_13, jq_14, jq_15, jq_16, jq_17, jq_18, jq_19, jq_20, jq_21, jq_22, jq_23, jq_24, jq_25, jq_26, jq_27, jq_28, jq_29, jq_30, jq_31, jq_32, jq_33, jq_34, jq_35, jq_36, jq_37, jq_38, jq_39, jq_40, jq_41, jq_42, jq_43, jq_44, jq_45, jq_46, jq_47, jq_48, jq_49, jq_50, jq_51, jq_52, jq_53, jq_54, jq_55, jq_56, jq_57, jq_58, jq_59, jq_60, jq_61, jq_62, jq_63, jq_64, jq_65, jq_66, jq_67, jq_68, jq_69, jq_70, jq_71, jq_72, jq_73, jq_74, jq_75, jq_76, jq_77, jq_78, jq_79, jq_80, jq_81, jq_82, jq_83, jq_84, jq_85, jq_86, jq_87, jq_88, jq_89, jq_90, jq_91, jq_92, jq_93, jq_94, jq_95, jq_96, jq_97, jq_98, jq_99, jq_100, jq_101, jq_102, jq_103, jq_104, jq_105, jq_106, jq_107, jq_108, jq_109, jq_110, jq_111, jq_112, jq_113, jq_114, jq_115, jq_116, jq_117, jq_118, jq_119, jq_120, jq_121, jq_122, jq_123, jq_124, jq_125, jq_126, jq_127, jq_128, jq_129, jq_130, jq_131, jq_132, jq_133, jq_134, jq_135, jq_136, jq_137, jq_138, jq_139, jq_140, jq_141, jq_142, jq_143, jq_144, jq_145, jq_146, jq_147, jq_148, jq_149, jq_150, jq_151, jq_152, jq_153, jq_154, jq_155, jq_156, jq_157, jq_158, jq_159, jq_160, jq_161, jq_162, jq_163, jq_164, jq_165, jq_166, jq_167, jq_168, jq_169, jq_170, jq_171, jq_172, jq_173, jq_174, jq_175, jq_176, jq_177, jq_178, jq_179, jq_180, jq_181, jq_182, jq_183, jq_184, jq_185, jq_186, jq_187, jq_188, jq_189, jq_190, jq_191, jq_192, jq_193, jq_194, jq_195, jq_196, jq_197, jq_198, jq_199, jq_200, jq_201, jq_202, jq_203, jq_204, jq_205, jq_206, jq_207, jq_208, jq_209, jq_210, jq_211, jq_212, jq_213, jq_214, jq_215, jq_216, jq_217, jq_218, jq_219, jq_220, jq_221, jq_222, jq_223, jq_224, jq_225, jq_226, jq_227, jq_228, jq_229, jq_230] := hq
  rcases List.mem_cons.mp hq with rfl | hq
  · exact jwc_1
  rcases List.mem_cons.mp hq with rfl | hq
  · exact jwc_2
  rcases List.mem_cons.mp hq with rfl | hq
  · exact jwc_3
  rcases List.mem_cons.mp hq with rfl | hq
  · exact jwc_4
  rcases List.mem_cons.mp hq with rfl | hq
  · exact jwc_5
  rcases List.mem_cons.mp hq with rfl | hq
  · exact jwc_6
  rcases List.mem_cons.mp hq with rfl | hq
  · exact jwc_7
  rcases List.mem_cons.mp hq with rfl | hq
  · exact jwc_8
  rcases List.mem_cons.mp hq with rfl | hq
  · exact jwc_9
  rcases List.mem_cons.mp hq with rfl | hq
  · exact jwc_10
  rcases List.mem_cons.mp hq with rfl | hq
  · exact jwc_11
  rcases List.mem_cons.mp hq with rfl | hq
  · exact jwc_12
  rcases List.mem_cons.mp hq with rfl | hq
  · exact jwc_13
  rcases List.mem_cons.mp hq with rfl | hq
  · exact jwc_14
  rcases List.mem_cons.mp hq with rfl | hq
  · exact jwc_15
  rcases List.mem_cons.mp hq with rfl | hq
  · exact jwc_16
  rcases List.mem_cons.mp hq with rfl | hq
  · exact jwc_17
  rcases List.mem_cons.mp hq with rfl | hq
  · exact jwc_18
  rcases List.mem_cons.mp hq with rfl | hq
  · exact jwc_19
  rcases List.mem_cons.mp hq with rfl | hq
  · exact jwc_20
  rcases List.mem_cons.mp hq with rfl | hq
  · exact jwc_21
  rcases List.mem_cons.mp hq with rfl | hq
  · exact jwc_22
  rcases List.mem_cons.mp hq with rfl | hq
  · exact jwc_23
  rcases List.mem_cons.mp hq with rfl | hq
  · exact jwc_24
  rcases List.mem_cons.mp hq with rfl | hq
  · exact jwc_25
  rcases List.mem_cons.mp hq with rfl | hq
  · exact jwc_26
  rcases List.mem_cons.mp hq with rfl | hq
  · exact jwc_27
  rcases List.mem_cons.mp hq with rfl | hq
  · exact jwc_28
  rcases List.mem_cons.mp hq with rfl | hq
  · exact jwc_29
  rcases List.mem_cons.mp hq with rfl | hq
  · exact jwc_30
  rcases List.mem_cons.mp hq with rfl | hq
  · exact jwc_31
  rcases List.mem_cons.mp hq with rfl | hq
  · exact jwc_32
  rcases List.mem_cons.mp hq with rfl | hq
  · exact jwc_33
  rcases List.mem_cons.mp hq with rfl | hq
  · exact jwc_34
  rcases List.mem_cons.mp hq with rfl | hq
  · exact jwc_35
  rcases List.mem_cons.mp hq with rfl | hq
  · exact jwc_36
  rcases List.mem_cons.mp hq with rfl | hq
  · exact jwc_37
  rcases List.mem_cons.mp hq with rfl | hq
  · exact jwc_38
  rcases List.mem_cons.mp hq with rfl | hq
  · exact jwc_39
  rcases List.mem_cons.mp hq with rfl | hq
  · exact jwc_40
  rcases List.mem_cons.mp hq with rfl | hq
  · exact jwc_41
  rcases List.mem_cons.mp hq with rfl | hq
  · exact jwc_42
  rcases List.mem_cons.mp hq with rfl | hq
  · exact jwc_43
  rcases List.mem_cons.mp hq with rfl | hq
  · exact jwc_44
  rcases List.mem_cons.mp hq with rfl | hq
  · exact jwc_45
  rcases List.mem_cons.mp hq with rfl | hq
  · exact jwc_46
  rcases List.mem_cons.mp hq with rfl | hq
  · exact jwc_47
  rcases List.mem_cons.mp hq with rfl | hq
  · exact jwc_48
  rcases List.mem_cons.mp hq with rfl | hq
  · exact jwc_49
  rcases List.mem_cons.mp hq with rfl | hq
  · exact jwc_50
  rcases List.mem_cons.mp hq with rfl | hq
  · exact jwc_51
  rcases List.mem_cons.mp hq with rfl | hq
  · exact jwc_52
  rcases List.mem_cons.mp hq with rfl | hq
  · exact jwc_53
  rcases List.mem_cons.mp hq with rfl | hq
  · exact jwc_54
  rcases List.mem_cons.mp hq with rfl | hq
  · exact jwc_55
  rcases List.mem_cons.mp hq with rfl | hq
  · exact jwc_56
  rcases List.mem_cons.mp hq with rfl | hq
  · exact jwc_57
  rcases List.mem_cons.mp hq with rfl | hq
  · exact jwc_58
  rcases List.mem_cons.mp hq with rfl | hq
  · exact jwc_59
  rcases List.mem_cons.mp hq with rfl | hq
  · exact jwc_60
  rcases List.mem_cons.mp hq with rfl | hq
  · exact jwc_61
  rcases List.mem_cons.mp hq with rfl | hq
  · exact jwc_62
  rcases List.mem_cons.mp hq with rfl | hq
  · exact jwc_63
  rcases List.mem_cons.mp hq with rfl | hq
  · exact jwc_64
  rcases List.mem_cons.mp hq with rfl | hq
  · exact jwc_65
  rcases List.mem_cons.mp hq with rfl | hq
  · exact jwc_66
  rcases List.mem_cons.mp hq with rfl | hq
  · exact jwc_67
  rcases List.mem_cons.mp hq with rfl | hq
  · exact jwc_68
  rcases List.mem_cons.mp hq with rfl | hq
  · exact jwc_69
  rcases List.mem_cons.mp hq with rfl | hq
  · exact jwc_70
  rcases List.mem_cons.mp hq with rfl | hq
  · exact jwc_71
  rcases List.mem_cons.mp hq with rfl | hq
  · exact jwc_72
  rcases List.mem_cons.mp hq with rfl | hq
  · exact jwc_73
  rcases List.mem_cons.mp hq with rfl | hq
  · exact jwc_74
  rcases List.mem_cons.mp hq with rfl | hq
  · exact jwc_75
  rcases List.mem_cons.mp hq with rfl | hq
  · exact jwc_76
  rcases List.mem_cons.mp hq with rfl | hq
  · exact jwc_77
  rcases List.mem_cons.mp hq with rfl | hq
  · exact jwc_78
  rcases List.mem_cons.mp hq with rfl | hq
  · exact jwc_79
  rcases List.mem_cons.mp hq with rfl | hq
  · exact jwc_80
  rcases List.mem_cons.mp hq with rfl | hq
  · exact jwc_81
  rcases List.mem_cons.mp hq with rfl | hq
  · exact jwc_82
  rcases List.mem_cons.mp hq with rfl | hq
  · exact jwc_83
  rcases List.mem_cons.mp hq with rfl | hq
  · exact jwc_84
  rcases List.mem_cons.mp hq with rfl | hq
  · exact jwc_85
  rcases List.mem_cons.mp hq with rfl | hq
  · exact jwc_86
  rcases List.mem_cons.mp hq with rfl | hq
  · exact jwc_87
  rcases List.mem_cons.mp hq with rfl | hq
  · exact jwc_88
  rcases List.mem_cons.mp hq with rfl | hq
  · exact jwc_89
  rcases List.mem_cons.mp hq with rfl | hq
  · exact jwc_90
  rcases List.mem_cons.mp hq with rfl | hq
  · exact jwc_91
  rcases List.mem_cons.mp hq with rfl | hq
  · exact jwc_92
  rcases List.mem_cons.mp hq with rfl | hq
  · exact jwc_93
  rcases List.mem_cons.mp hq with rfl | hq
  · exact jwc_94
  rcases List.mem_cons.mp hq with rfl | hq
  · exact jwc_95
  rcases List.mem_cons.mp hq with rfl | hq
  · exact jwc_96
  rcases List.mem_cons.mp hq with rfl | hq
  · exact jwc_97
  rcases List.mem_cons.mp hq with rfl | hq
  · exact jwc_98
  rcases List.mem_cons.mp hq with rfl | hq
  · exact jwc_99
  rcases List.mem_cons.mp hq with rfl | hq
  · exact jwc_100
  rcases List.mem_cons.mp hq with rfl | hq
  · exact jwc_101
  rcases List.mem_cons.mp hq with rfl | hq
  · exact jwc_102
  rcases List.mem_cons.mp hq with rfl | hq
  · exact jwc_103
  rcases List.mem_cons.mp hq with rfl | hq
  · exact jwc_104
  rcases List.mem_cons.mp hq with rfl | hq
  · exact jwc_105
  rcases List.mem_cons.mp hq with rfl | hq
  · exact jwc_106
  rcases List.mem_cons.mp hq with rfl | hq
  · exact jwc_107
  rcases List.mem_cons.mp hq with rfl | hq
  · exact jwc_108
  rcases List.mem_cons.mp hq with rfl | hq
  · exact jwc_109
  rcases List.mem_cons.mp hq with rfl | hq
  · exact jwc_110
  rcases List.mem_cons.mp hq with rfl | hq
  · exact jwc_111
  rcases List.mem_cons.mp hq with rfl | hq
  · exact jwc_112
  rcases List.mem_cons.mp hq with rfl | hq
  · exact jwc_113
  rcases List.mem_cons.mp hq with rfl | hq
  · exact jwc_114
  rcases List.mem_cons.mp hq with rfl | hq
  · exact jwc_115
  rcases List.mem_cons.mp hq with rfl | hq
  · exact jwc_116
  rcases List.mem_cons.mp hq with rfl | hq
  · exact jwc_117
  rcases List.mem_cons.mp hq with rfl | hq
  · exact jwc_118
  rcases List.mem_cons.mp hq with rfl | hq
  · exact jwc_119
  rcases List.mem_cons.mp hq with rfl | hq
  · exact jwc_120
  rcases List.mem_cons.mp hq with rfl | hq
  · exact jwc_121
  rcases List.mem_cons.mp hq with rfl | hq
  · exact jwc_122
  rcases List.mem_cons.mp hq with rfl | hq
  · exact jwc_123
  rcases List.mem_cons.mp hq with rfl | hq
  · exact jwc_124
  rcases List.mem_cons.mp hq with rfl | hq
  · exact jwc_125
  rcases List.mem_cons.mp hq with rfl | hq
  · exact jwc_126
  rcases List.mem_cons.mp hq with rfl | hq
  · exact jwc_127
  rcases List.mem_cons.mp hq with rfl | hq
  · exact jwc_128
  rcases List.mem_cons.mp hq with rfl | hq
  · exact jwc_129
  rcases List.mem_cons.mp hq with rfl | hq
  · exact jwc_130
  rcases List.mem_cons.mp hq with rfl | hq
  · exact jwc_131
  rcases List.mem_cons.mp hq with rfl | hq
  · exact jwc_132
  rcases List.mem_cons.mp hq with rfl | hq
  · exact jwc_133
  rcases List.mem_cons.mp hq with rfl | hq
  · exact jwc_134
  rcases List.mem_cons.mp hq with rfl | hq
  · exact jwc_135
  rcases List.mem_cons.mp hq with rfl | hq
  · exact jwc_136
  rcases List.mem_cons.mp hq with rfl | hq
  · exact jwc_137
  rcases List.mem_cons.mp hq with rfl | hq
  · exact jwc_138
  rcases List.mem_cons.mp hq with rfl | hq
  · exact jwc_139
  rcases List.mem_cons.mp hq with rfl | hq
  · exact jwc_140
  rcases List.mem_cons.mp hq with rfl | hq
  · exact jwc_141
  rcases List.mem_cons.mp hq with rfl | hq
  · exact jwc_142
  rcases List.mem_cons.mp hq with rfl | hq
  · exact jwc_143
  rcases List.mem_cons.mp hq with rfl | hq
  · exact jwc_144
  rcases List.mem_cons.mp hq with rfl | hq
  · exact jwc_145
  rcases List.mem_cons.mp hq with rfl | hq
  · exact jwc_146
  rcases List.mem_cons.mp hq with rfl | hq
  · exact jwc_147
  rcases List.mem_cons.mp hq with rfl | hq
  · exact jwc_148
  rcases List.mem_cons.mp hq with rfl | hq
  · exact jwc_149
  rcases List.mem_cons.mp hq with rfl | hq
  · exact jwc_150
  rcases List.mem_cons.mp hq with rfl | hq
  · exact jwc_151
  rcases List.mem_cons.mp hq with rfl | hq
  · exact jwc_152
  rcases List.mem_cons.mp hq with rfl | hq
  · exact jwc_153
  rcases List.mem_cons.mp hq with rfl | hq
  · exact jwc_154
  rcases List.mem_cons.mp hq with rfl | hq
  · exact jwc_155
  rcases List.mem_cons.mp hq with rfl | hq
  · exact jwc_156
  rcases List.mem_cons.mp hq with rfl | hq
  · exact jwc_157
  rcases List.mem_cons.mp hq with rfl | hq
  · exact jwc_158
  rcases List.mem_cons.mp hq with rfl | hq
  · exact jwc_159
  rcases List.mem_cons.mp hq with rfl | hq
  · exact jwc_160
  rcases List.mem_cons.mp hq with rfl | hq
  · exact jwc_161
  rcases List.mem_cons.mp hq with rfl | hq
  · exact jwc_162
  rcases List.mem_cons.mp hq with rfl | hq
  · exact jwc_163
  rcases List.mem_cons.mp hq with rfl | hq
  · exact jwc_164
  rcases List.mem_cons.mp hq with rfl | hq
  · exact jwc_165
  rcases List.mem_cons.mp hq with rfl | hq
  · exact jwc_166
  rcases List.mem_cons.mp hq with rfl | hq
  · exact jwc_167
  rcases List.mem_cons.mp hq with rfl | hq
  · exact jwc_168
  rcases List.mem_cons.mp hq with rfl | hq
  · exact jwc_169
  rcases List.mem_cons.mp hq with rfl | hq
  · exact jwc_170
  rcases List.mem_cons.mp hq with rfl | hq
  · exact jwc_171
  rcases List.mem_cons.mp hq with rfl | hq
  · exact jwc_172
  rcases List.mem_cons.mp hq with rfl | hq
  · exact jwc_173
  rcases List.mem_cons.mp hq with rfl | hq
  · exact jwc_174
  rcases List.mem_cons.mp hq with rfl | hq
  · exact jwc_175
  rcases List.mem_cons.mp hq with rfl | hq
  · exact jwc_176
  rcases List.mem_cons.mp hq with rfl | hq
  · exact jwc_177
  rcases List.mem_cons.mp hq with rfl | hq
  · exact jwc_178
  rcases List.mem_cons.mp hq with rfl | hq
  · exact jwc_179
  rcases List.mem_cons.mp hq with rfl | hq
  · exact jwc_180
  rcases List.mem_cons.mp hq with rfl | hq
  · exact jwc_181
  rcases List.mem_cons.mp hq with rfl | hq
  · exact jwc_182
  rcases List.mem_cons.mp hq with rfl | hq
  · exact jwc_183
  rcases List.mem_cons.mp hq with rfl | hq
  · exact jwc_184
  rcases List.mem_cons.mp hq with rfl | hq
  · exact jwc_185
  rcases List.mem_cons.mp hq with rfl | hq
  · exact jwc_186
  rcases List.mem_cons.mp hq with rfl | hq
  · exact jwc_187
  rcases List.mem_cons.mp hq with rfl | hq
  · exact jwc_188
  rcases List.mem_cons.mp hq with rfl | hq
  · exact jwc_189
  rcases List.mem_cons.mp hq with rfl | hq
  · exact jwc_190
  rcases List.mem_cons.mp hq with rfl | hq
  · exact jwc_191
  rcases List.mem_cons.mp hq with rfl | hq
  · exact jwc_192
  rcases List.mem_cons.mp hq with rfl | hq
  · exact jwc_193
  rcases List.mem_cons.mp hq with rfl | hq
  · exact jwc_194
  rcases List.mem_cons.mp hq with rfl | hq
  · exact jwc_195
  rcases List.mem_cons.mp hq with rfl | hq
  · exact jwc_196
  rcases List.mem_cons.mp hq with rfl | hq
  · exact jwc_197
  rcases List.mem_cons.mp hq with rfl | hq
  · exact jwc_198
  rcases List.mem_cons.mp hq with rfl | hq
  · exact jwc_199
  rcases List.mem_cons.mp hq with rfl | hq
  · exact jwc_200
  rcases List.mem_cons.mp hq with rfl | hq
  · exact jwc_201
  rcases List.mem_cons.mp hq with rfl | hq
  · exact jwc_202
  rcases List.mem_cons.mp hq with rfl | hq
  · exact jwc_203
  rcases List.mem_cons.mp hq with rfl | hq
  · exact jwc_204
  rcases List.mem_cons.mp hq with rfl | hq
  · exact jwc_205
  rcases List.mem_cons.mp hq with rfl | hq
  · exact jwc_206
  rcases List.mem_cons.mp hq with rfl | hq
  · exact jwc_207
  rcases List.mem_cons.mp hq with rfl | hq
  · exact jwc_208
  rcases List.mem_cons.mp hq with rfl | hq
  · exact jwc_209
  rcases List.mem_cons.mp hq with rfl | hq
  · exact jwc_210
  rcases List.mem_cons.mp hq with rfl | hq
  · exact jwc_211
  rcases List.mem_cons.mp hq with rfl | hq
  · exact jwc_212
  rcases List.mem_cons.mp hq with rfl | hq
  · exact jwc_213
  rcases List.mem_cons.mp hq with rfl | hq
  · exact jwc_214
  rcases List.mem_cons.mp hq with rfl | hq
  · exact jwc_215
  rcases List.mem_cons.mp hq with rfl | hq
  · exact jwc_216
  rcases List.mem_cons.mp hq with rfl | hq
  · exact jwc_217
  rcases List.mem_cons.mp hq with rfl | hq
  · exact jwc_218
  rcases List.mem_cons.mp hq with rfl | hq
  · exact jwc_219
  rcases List.mem_cons.mp hq with rfl | hq
  · exact jwc_220
  rcases List.mem_cons.mp hq with rfl | hq
  · exact jwc_221
  rcases List.mem_cons.mp hq with rfl | hq
  · exact jwc_222
  rcases List.mem_cons.mp hq with rfl | hq
  · exact jwc_223
  rcases List.mem_cons.mp hq with rfl | hq
  · exact jwc_224
  rcases List.mem_cons.mp hq with rfl | hq
  · exact jwc_225
  rcases List.mem_cons.mp hq with rfl | hq
  · exact jwc_226
  rcases List.mem_cons.mp hq with rfl | hq
  · exact jwc_227
  rcases List.mem_cons.mp hq with rfl | hq
  · exact jwc_228
  rcases List.mem_cons.mp hq with rfl | hq
  · exact jwc_229
  rcases List.mem_cons.mp hq with rfl | hq
  · exact jwc_230
  exact absurd hq List.not_mem_nil
theorem jm_y_ok : ∀ y, y ≠ 0 → y < jm_n → Cond.code (jm_nm y) (jm_code y) (jm_maxL y) (jm_ret y) ∈ jm_gw ∧ Cond.initialized (jm_nm y).cls ∈ jm_gw ∧ plainName (jm_nm y).cls = true ∧ (jm_nm y).cls = jm_cn (jm_own y) ∧ ((jm_nm y).cls ≠ "java/lang/invoke/MethodHandle" ∧ (jm_nm y).cls ≠ "java/lang/invoke/VarHandle") ∧ jm_maxL y ≤ 21 ∧ (jm_ini y = true → (jm_nm y).name = "<init>") := by
  intro y h0 hy
  have h := jyck_all y hy
  unfold jyck at h
  simp only [Bool.or_eq_true, Bool.and_eq_true, beq_iff_eq, h0, false_or, decide_eq_true_eq, Bool.not_eq_true'] at h
  obtain ⟨h2, h3, h4, h5, h6, h7, h8⟩ := h
  have hq : jm_at y ∈ jm_L.drop 1 := by
    have hlen : jm_n ≤ jm_L.length := by decide +kernel
    have hg : jm_L[y]? = some (jm_L[y]'(Nat.lt_of_lt_of_le hy hlen)) := List.getElem?_eq_getElem _
    have : jm_at y = jm_L[y]'(Nat.lt_of_lt_of_le hy hlen) := by
      unfold jm_at
      rw [List.getD_eq_getElem?_getD, hg]
      rfl
    rw [this]
    refine List.mem_of_getElem? (i := y - 1) ?_
    rw [List.getElem?_drop, show 1 + (y - 1) = y by omega]
    exact hg
  exact ⟨jwc_all _ hq, jck_ok h2, h3, h4, ⟨h5, h6⟩, h7, fun hi => h8.resolve_left (by rw [hi]; decide)⟩
end
section
def jm_mck (k : Nat) (e : Nat × Nat × Nat × Nat × Nat) : Bool := decide ((parseMethodDescriptor (jm_nm e.2.2.1).desc).map (fun d => d.parameters.length) = some e.2.2.2.1) && (if e.2.1 ≤ 2 then jck e.2.2.2.2 (Cond.methodLink (jm_cn k) e.1 (jm_nm e.2.2.1)) else decide (Cond.methodLinkNest (jm_cn k) e.1 (jm_nm e.2.2.1) jm_host ∈ jm_nest)) && (if e.2.1 = 0 ∨ e.2.1 = 3 then jck (jm_wp.getD e.2.2.1 (0, 0, 0, 0)).2.2.1 (Cond.instanceMethod (jm_nm e.2.2.1)) && jck (jm_wp.getD e.2.2.1 (0, 0, 0, 0)).2.2.2 (Cond.selects (jm_nm e.2.2.1).cls (jm_nm e.2.2.1) (jm_nm e.2.2.1)) && decide (vwCl[jm_own e.2.2.1]?.map (fun q => q.1) = some (jm_nm e.2.2.1).cls) else if e.2.1 = 1 ∨ e.2.1 = 4 then jck (jm_wp.getD e.2.2.1 (0, 0, 0, 0)).2.2.1 (Cond.instanceMethod (jm_nm e.2.2.1)) && decide ((jm_nm e.2.2.1).name = "<init>") && decide (jm_ret e.2.2.1 = none) else jck (jm_wp.getD e.2.2.1 (0, 0, 0, 0)).2.2.1 (Cond.static (jm_nm e.2.2.1)))
theorem jmA_0_0 : jmT_0_0.all (jm_mck 0) = true := by decide +kernel
theorem jmA_0_1 : jmT_0_1.all (jm_mck 0) = true := by decide +kernel
theorem jmA_1_0 : jmT_1_0.all (jm_mck 1) = true := by decide +kernel
theorem jmA_3_0 : jmT_3_0.all (jm_mck 3) = true := by decide +kernel
theorem jmA_4_0 : jmT_4_0.all (jm_mck 4) = true := by decide +kernel
theorem jmA_4_1 : jmT_4_1.all (jm_mck 4) = true := by decide +kernel
theorem jmA_5_0 : jmT_5_0.all (jm_mck 5) = true := by decide +kernel
theorem jmA_6_0 : jmT_6_0.all (jm_mck 6) = true := by decide +kernel
theorem jmA_6_1 : jmT_6_1.all (jm_mck 6) = true := by decide +kernel
theorem jmA_7_0 : jmT_7_0.all (jm_mck 7) = true := by decide +kernel
theorem jmA_7_1 : jmT_7_1.all (jm_mck 7) = true := by decide +kernel
theorem jmA_8_0 : jmT_8_0.all (jm_mck 8) = true := by decide +kernel
theorem jmA_9_0 : jmT_9_0.all (jm_mck 9) = true := by decide +kernel
theorem jmA_10_0 : jmT_10_0.all (jm_mck 10) = true := by decide +kernel
theorem jmA_10_1 : jmT_10_1.all (jm_mck 10) = true := by decide +kernel
theorem jmA_10_2 : jmT_10_2.all (jm_mck 10) = true := by decide +kernel
theorem jmA_10_3 : jmT_10_3.all (jm_mck 10) = true := by decide +kernel
theorem jmA_10_4 : jmT_10_4.all (jm_mck 10) = true := by decide +kernel
theorem jmA_11_0 : jmT_11_0.all (jm_mck 11) = true := by decide +kernel
theorem jmA_11_1 : jmT_11_1.all (jm_mck 11) = true := by decide +kernel
theorem jmA_11_2 : jmT_11_2.all (jm_mck 11) = true := by decide +kernel
theorem jmA_11_3 : jmT_11_3.all (jm_mck 11) = true := by decide +kernel
theorem jmA_11_4 : jmT_11_4.all (jm_mck 11) = true := by decide +kernel
theorem jmA_12_0 : jmT_12_0.all (jm_mck 12) = true := by decide +kernel
theorem jmA_12_1 : jmT_12_1.all (jm_mck 12) = true := by decide +kernel
theorem jmA_12_2 : jmT_12_2.all (jm_mck 12) = true := by decide +kernel
theorem jmA_12_3 : jmT_12_3.all (jm_mck 12) = true := by decide +kernel
theorem jmA_12_4 : jmT_12_4.all (jm_mck 12) = true := by decide +kernel
theorem jmA_12_5 : jmT_12_5.all (jm_mck 12) = true := by decide +kernel
theorem jall_app {α : Type} {f : α → Bool} {a b : List α} (h1 : a.all f = true) (h2 : b.all f = true) : (a ++ b).all f = true := by rw [List.all_append, h1, h2]; rfl
theorem jm_mth_all : ∀ k ∈ [0, 1, 2, 3, 4, 5, 6, 7, 8, 9, 10, 11, 12, 13, 14], (jm_mthT k).all (jm_mck k) = true := by
  intro k hk
  simp only [List.mem_cons, List.not_mem_nil, or_false] at hk
  rcases hk with rfl | rfl | rfl | rfl | rfl | rfl | rfl | rfl | rfl | rfl | rfl | rfl | rfl | rfl | rfl
  · exact (jall_app jmA_0_0 jmA_0_1)
  · exact jmA_1_0
  · rfl
  · exact jmA_3_0
  · exact (jall_app jmA_4_0 jmA_4_1)
  · exact jmA_5_0
  · exact (jall_app jmA_6_0 jmA_6_1)
  · exact (jall_app jmA_7_0 jmA_7_1)
  · exact jmA_8_0
  · exact jmA_9_0
  · exact (jall_app jmA_10_0 (jall_app jmA_10_1 (jall_app jmA_10_2 (jall_app jmA_10_3 jmA_10_4))))
  · exact (jall_app jmA_11_0 (jall_app jmA_11_1 (jall_app jmA_11_2 (jall_app jmA_11_3 jmA_11_4))))
  · exact (jall_app jmA_12_0 (jall_app jmA_12_1 (jall_app jmA_12_2 (jall_app jmA_12_3 (jall_app jmA_12_4 jmA_12_5)))))
  · rfl
  · rfl
theorem jm_mth_ok : ∀ k idx kd y n, jm_mth k idx = some (kd, y, n) → (parseMethodDescriptor (jm_nm y).desc).map (fun d => d.parameters.length) = some n ∧
    ((kd = 0 ∨ kd = 1 ∨ kd = 2) → Cond.methodLink (jm_cn k) idx (jm_nm y) ∈ jm_gw) ∧ ((kd = 3 ∨ kd = 4 ∨ kd = 5) → Cond.methodLinkNest (jm_cn k) idx (jm_nm y) jm_host ∈ jm_nest) ∧
    ((kd = 0 ∨ kd = 3) → Cond.instanceMethod (jm_nm y) ∈ jm_gw ∧ Cond.selects (jm_nm y).cls (jm_nm y) (jm_nm y) ∈ jm_gw ∧ vwCl[jm_own y]?.map (fun q => q.1) = some (jm_nm y).cls) ∧
    ((kd = 1 ∨ kd = 4) → Cond.instanceMethod (jm_nm y) ∈ jm_gw ∧ (jm_nm y).name = "<init>" ∧ jm_ret y = none) ∧ ((kd = 2 ∨ kd = 5) → Cond.static (jm_nm y) ∈ jm_gw) := by
  intro k idx kd y n h
  unfold jm_mth at h
  obtain ⟨q, hf, hq⟩ := Option.map_eq_some_iff.mp h
  have hm := List.mem_of_find?_eq_some hf
  have hi := List.find?_some hf
  have hk : k ∈ [0, 1, 2, 3, 4, 5, 6, 7, 8, 9, 10, 11, 12, 13, 14] := by
    rcases Nat.lt_or_ge k 15 with h9 | h9
    · have : ∀ k, k < 15 → k ∈ [0, 1, 2, 3, 4, 5, 6, 7, 8, 9, 10, 11, 12, 13, 14] := by decide
      exact this k h9
    · exfalso
      match k, h9, hm with
      | k + 15, _, hm => exact absurd hm List.not_mem_nil
  have hc := List.all_eq_true.mp (jm_mth_all k hk) _ hm
  cases hq
  simp only [beq_iff_eq] at hi
  subst hi
  unfold jm_mck at hc
  simp only [Bool.and_eq_true] at hc
  obtain ⟨⟨h1, h2⟩, h3⟩ := hc
  refine ⟨of_decide_eq_true h1, fun hk => ?_, fun hk => ?_, fun hk => ?_, fun hk => ?_, fun hk => ?_⟩
  · rw [if_pos (by omega)] at h2
    exact jck_ok h2
  · rw [if_neg (by omega)] at h2
    exact of_decide_eq_true h2
  · rw [if_pos hk] at h3
    simp only [Bool.and_eq_true] at h3
    exact ⟨jck_ok h3.1.1, jck_ok h3.1.2, of_decide_eq_true h3.2⟩
  · rw [if_neg (by omega), if_pos hk] at h3
    simp only [Bool.and_eq_true] at h3
    exact ⟨jck_ok h3.1.1, of_decide_eq_true h3.1.2, of_decide_eq_true h3.2⟩
  · rw [if_neg (by omega), if_neg (by omega)] at h3
    exact jck_ok h3
end
section
theorem jd_app {c : ByteArray} {a b : List (Nat × Instr × Nat)} (h1 : ∀ e ∈ a, decode c e.1 = .ok e.2) (h2 : ∀ e ∈ b, decode c e.1 = .ok e.2) : ∀ e ∈ a ++ b, decode c e.1 = .ok e.2 := fun e h => (List.mem_append.mp h).elim (h1 e) (h2 e)
set_option maxRecDepth 100000 in
theorem jd_0_0 : ∀ e ∈ jt_0_0, decode cL_law e.1 = .ok e.2 := by decide +kernel
set_option maxRecDepth 100000 in
theorem jd_0_1 : ∀ e ∈ jt_0_1, decode cL_law e.1 = .ok e.2 := by decide +kernel
set_option maxRecDepth 100000 in
theorem jd_0_2 : ∀ e ∈ jt_0_2, decode cL_law e.1 = .ok e.2 := by decide +kernel
set_option maxRecDepth 100000 in
theorem jd_0_3 : ∀ e ∈ jt_0_3, decode cL_law e.1 = .ok e.2 := by decide +kernel
set_option maxRecDepth 100000 in
theorem jd_0_4 : ∀ e ∈ jt_0_4, decode cL_law e.1 = .ok e.2 := by decide +kernel
set_option maxRecDepth 100000 in
theorem jd_0_5 : ∀ e ∈ jt_0_5, decode cL_law e.1 = .ok e.2 := by decide +kernel
set_option maxRecDepth 100000 in
theorem jd_0_6 : ∀ e ∈ jt_0_6, decode cL_law e.1 = .ok e.2 := by decide +kernel
set_option maxRecDepth 100000 in
theorem jd_0_7 : ∀ e ∈ jt_0_7, decode cL_law e.1 = .ok e.2 := by decide +kernel
set_option maxRecDepth 100000 in
theorem jd_0_8 : ∀ e ∈ jt_0_8, decode cL_law e.1 = .ok e.2 := by decide +kernel
set_option maxRecDepth 100000 in
theorem jd_0_9 : ∀ e ∈ jt_0_9, decode cL_law e.1 = .ok e.2 := by decide +kernel
set_option maxRecDepth 100000 in
theorem jd_0_10 : ∀ e ∈ jt_0_10, decode cL_law e.1 = .ok e.2 := by decide +kernel
end
section
set_option maxRecDepth 100000 in
theorem jd_0_11 : ∀ e ∈ jt_0_11, decode cL_law e.1 = .ok e.2 := by decide +kernel
set_option maxRecDepth 100000 in
theorem jd_0_12 : ∀ e ∈ jt_0_12, decode cL_law e.1 = .ok e.2 := by decide +kernel
set_option maxRecDepth 100000 in
theorem jd_0_13 : ∀ e ∈ jt_0_13, decode cL_law e.1 = .ok e.2 := by decide +kernel
set_option maxRecDepth 100000 in
theorem jd_0_14 : ∀ e ∈ jt_0_14, decode cL_law e.1 = .ok e.2 := by decide +kernel
set_option maxRecDepth 100000 in
theorem jd_0_15 : ∀ e ∈ jt_0_15, decode cL_law e.1 = .ok e.2 := by decide +kernel
set_option maxRecDepth 100000 in
theorem jd_0_16 : ∀ e ∈ jt_0_16, decode cL_law e.1 = .ok e.2 := by decide +kernel
set_option maxRecDepth 100000 in
theorem jd_0_17 : ∀ e ∈ jt_0_17, decode cL_law e.1 = .ok e.2 := by decide +kernel
theorem jd_0 : ∀ e ∈ jt_0, decode cL_law e.1 = .ok e.2 := jd_app jd_0_0 (jd_app jd_0_1 (jd_app jd_0_2 (jd_app jd_0_3 (jd_app jd_0_4 (jd_app jd_0_5 (jd_app jd_0_6 (jd_app jd_0_7 (jd_app jd_0_8 (jd_app jd_0_9 (jd_app jd_0_10 (jd_app jd_0_11 (jd_app jd_0_12 (jd_app jd_0_13 (jd_app jd_0_14 (jd_app jd_0_15 (jd_app jd_0_16 (jd_0_17)))))))))))))))))
set_option maxRecDepth 100000 in
theorem jd_1_0 : ∀ e ∈ jt_1_0, decode cX0_init e.1 = .ok e.2 := by decide +kernel
set_option maxRecDepth 100000 in
theorem jd_1_1 : ∀ e ∈ jt_1_1, decode cX0_init e.1 = .ok e.2 := by decide +kernel
theorem jd_1 : ∀ e ∈ jt_1, decode cX0_init e.1 = .ok e.2 := jd_app jd_1_0 (jd_1_1)
set_option maxRecDepth 100000 in
theorem jd_2 : ∀ e ∈ jt_2, decode cX0_empty e.1 = .ok e.2 := by decide +kernel
set_option maxRecDepth 100000 in
theorem jd_3 : ∀ e ∈ jt_3, decode cX0_hasRole e.1 = .ok e.2 := by decide +kernel
set_option maxRecDepth 100000 in
theorem jd_4 : ∀ e ∈ jt_4, decode cX0_hasSession e.1 = .ok e.2 := by decide +kernel
set_option maxRecDepth 100000 in
theorem jd_5 : ∀ e ∈ jt_5, decode cX0_hasClaim e.1 = .ok e.2 := by decide +kernel
end
