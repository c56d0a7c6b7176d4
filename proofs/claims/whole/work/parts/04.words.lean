/-! THE TABLES' WORDS: every row of the small machine's tables is a word of the Statement's (printed by wip/whole/gen_words.py) -/
def ab_W : List Jvm.Cond := lw_tbl.filter goodWord
theorem ab_W_good : GoodIn ab_W ab_W := fun w h => ⟨h, good_of_word (List.mem_filter.mp h).2⟩
theorem ab_W_tbl {w : Jvm.Cond} (h : w ∈ ab_W) : w ∈ lw_tbl := (List.mem_filter.mp h).1
def ab_tb (k : Nat) : List Jvm.Cond := match k with
  | 0 => k2_sels lw_privs
  | 1 => tables_1_1
  | 2 => tables_1_2
  | 3 => tables_1_3
  | 4 => tables_1_4
  | 5 => tables_1_5
  | 6 => tables_1_6
  | _ => tables_1_7
theorem ab_tb_in {k : Nat} {w : Jvm.Cond} (h : w ∈ ab_tb k) : w ∈ lw_tbl := by
  unfold lw_tbl tables_1
  simp only [List.mem_append]
  match k, h with
  | 0, h => exact Or.inl h
  | 1, h => exact Or.inr (Or.inl h)
  | 2, h => exact Or.inr (Or.inr (Or.inl h))
  | 3, h => exact Or.inr (Or.inr (Or.inr (Or.inl h)))
  | 4, h => exact Or.inr (Or.inr (Or.inr (Or.inr (Or.inl h))))
  | 5, h => exact Or.inr (Or.inr (Or.inr (Or.inr (Or.inr (Or.inl h)))))
  | 6, h => exact Or.inr (Or.inr (Or.inr (Or.inr (Or.inr (Or.inr (Or.inl h))))))
  | k + 7, h => exact Or.inr (Or.inr (Or.inr (Or.inr (Or.inr (Or.inr (Or.inr h))))))
def ab_ats : List Jvm.Cond → List Nat → Bool
  | [], _ => true
  | w :: ws, i :: is => decide ((ab_tb (i / 1000))[i % 1000]? = some w) && goodWord w && ab_ats ws is
  | _ :: _, [] => false
theorem ab_ats_mem : ∀ {ws : List Jvm.Cond} {is : List Nat}, ab_ats ws is = true → ∀ w ∈ ws, w ∈ ab_W
  | [], _, _, _, h => by cases h
  | w :: ws, [], h, _, _ => by cases h
  | w :: ws, i :: is, h, v, hv => by
    simp only [ab_ats, Bool.and_eq_true, decide_eq_true_eq] at h
    rcases List.mem_cons.mp hv with e | e
    · subst e
      exact List.mem_filter.mpr ⟨ab_tb_in (List.mem_of_getElem? h.1.1), h.1.2⟩
    · exact ab_ats_mem h.2 v e
def ab_all2 {α : Type} (f : α → List Nat → Bool) : List α → List (List Nat) → Bool
  | [], _ => true
  | a :: as, i :: is => f a i && ab_all2 f as is
  | _ :: _, [] => false
theorem ab_all2_mem {α : Type} {f : α → List Nat → Bool} : ∀ {as : List α} {is : List (List Nat)}, ab_all2 f as is = true → ∀ a ∈ as, ∃ i, f a i = true
  | [], _, _, _, h => by cases h
  | a :: as, [], h, _, _ => by cases h
  | a :: as, i :: is, h, v, hv => by
    simp only [ab_all2, Bool.and_eq_true] at h
    rcases List.mem_cons.mp hv with e | e
    · subst e
      exact ⟨i, h.1⟩
    · exact ab_all2_mem h.2 v e
def ab_mok (q : MethodName × ByteArray × Nat × Nat × Nat) (is : List Nat) : Bool := ab_ats [.code q.1 q.2.1 q.2.2.1 (ab_ret q.2.2.2.1)] is && decide (q.1.cls = ab_cl q.2.2.2.2) && plainName q.1.cls && (decide (q.2.2.2.1 = 3) == decide (q.1.name = "<init>")) && decide (q.2.2.1 ≤ 20) && decide (q.1.cls ≠ "java/lang/invoke/MethodHandle") && decide (q.1.cls ≠ "java/lang/invoke/VarHandle")
def ab_y (mid : Nat) : MethodName := match ab_mT[mid]? with
  | some q => q.1
  | none => ⟨"", "", ""⟩
def ab_np (y : MethodName) (n : Nat) : Bool := decide ((parseMethodDescriptor y.desc).map (fun d => d.parameters.length) = some n)
def ab_cw (q : Nat × Nat × Nat × Nat × Nat × Nat) : List Jvm.Cond :=
  let own := ab_cl q.1
  let y := ab_y q.2.2.2.1
  if q.2.2.1 = 0 then [.methodLink own q.2.1 y, .instanceMethod y, .selects y.cls y y, .initialized y.cls]
  else if q.2.2.1 = 1 then [.methodLink own q.2.1 y, .static y, .initialized y.cls]
  else if q.2.2.1 = 2 then [.methodLink own q.2.1 y, .instanceMethod y, .initialized y.cls]
  else if q.2.2.1 = 3 then [.instanceMethod y, .initialized y.cls]
  else if q.2.2.1 = 4 then [.methodLink own q.2.1 objectInit, .instanceMethod objectInit, .code objectInit ⟨#[0xb1]⟩ 1 none]
  else if q.2.2.1 = 5 then [.methodLink own q.2.1 Lib.Math.max.name, .static Lib.Math.max.name, .initialized "java/lang/Math", .code Lib.Math.max.name Lib.Math.max.code 2 (some .int)]
  else if q.2.2.1 = 6 then [.methodLink own q.2.1 Lib.Math.min.name, .static Lib.Math.min.name, .initialized "java/lang/Math", .code Lib.Math.min.name Lib.Math.min.code 2 (some .int)]
  else if q.2.2.1 = 7 then [.methodLink own q.2.1 Lib.Math.abs.name, .static Lib.Math.abs.name, .initialized "java/lang/Math", .code Lib.Math.abs.name Lib.Math.abs.code 1 (some .int)]
  else if q.2.2.1 = 8 then [.methodLink own q.2.1 arraycopyName, .native arraycopyName, .static arraycopyName, .initialized "java/lang/System"]
  else []
/-- the class number of a receiver is its method's class; a constructor's name -/
def ab_cok (q : Nat × Nat × Nat × Nat × Nat × Nat) (is : List Nat) : Bool := ab_ats (ab_cw q) is &&
  (if q.2.2.1 ≤ 3 then ab_np (ab_y q.2.2.2.1) q.2.2.2.2.1 && (q.2.2.1 == 1 || decide ((ab_vw[q.2.2.2.2.2]?).map (fun v => v.1) = some (ab_y q.2.2.2.1).cls)) && (decide (q.2.2.1 < 2) || decide ((ab_y q.2.2.2.1).name = "<init>")) && decide (q.2.2.2.1 < 267) else true)
def ab_T (ci : Nat) : u_T := ((ab_vw[ci]?).map (fun v => v.2.1)).getD (fun _ => ("", "", "", false))
def ab_N (ci : Nat) : Nat := ((ab_vw[ci]?).map (fun v => v.2.2)).getD 0
def ab_tco (ty : FieldType) (tc : Nat) : Bool := match ty with
  | .int => tc == 0
  | .boolean => tc == 1
  | .object _ => tc == 2
  | .array _ => tc == 2
  | _ => false
def ab_fok (q : Nat × Nat × Nat × Nat × Nat × Nat) (is : List Nat) : Bool :=
  let f := ab_T q.2.2.1 q.2.2.2.1
  ab_ats [.fieldLink (ab_cl q.1) q.2.1 f.1 f.2.1 f.2.2.1] is && decide (q.2.2.2.1 < ab_N q.2.2.1) && (f.2.2.2 == (q.2.2.2.2.1 == 1)) && decide (q.2.2.2.2.1 ≤ 1) && (match parseFieldDescriptor f.2.2.1 with
    | some ty => ab_tco ty q.2.2.2.2.2
    | none => false) && decide (q.2.2.1 < 8) && (q.2.2.2.2.1 == 0 || decide (f.1 = (((ab_vw[q.2.2.1]?).map (fun v => v.1)).getD "")))
def ab_nok (q : Nat × Nat × Nat × List Nat) (is : List Nat) : Bool := let C := ((ab_vw[q.2.2.1]?).map (fun v => v.1)).getD ""
  ab_ats [.classLink (ab_cl q.1) q.2.1 C, .instantiable C (ab_N q.2.2.1), .initialized C] is && decide (q.2.2.1 < 8) && decide (q.2.2.2.length = ab_N q.2.2.1) && (List.range (ab_N q.2.2.1)).all (fun k => match parseFieldDescriptor (ab_T q.2.2.1 k).2.2.1 with
    | some ty => ab_tco ty (q.2.2.2.getD k 9)
    | none => false)
def ab_kok (q : Nat × Nat × Int32) (is : List Nat) : Bool := ab_ats [.constant (ab_cl q.1) q.2.1 q.2.2] is
def ab_lok (q : Nat × Nat × Int64) (is : List Nat) : Bool := ab_ats [.constantLong (ab_cl q.1) q.2.1 q.2.2] is
def ab_sok (q : Nat × Nat × Nat) (is : List Nat) : Bool := ab_ats [.fieldLink (ab_cl q.1) q.2.1 "FairLabels$Maker" (ab_sn.getD q.2.2 "") "[I"] is && decide (1 ≤ q.2.2) && decide (q.2.2 ≤ 5)
set_option maxRecDepth 100000 in
theorem ab_mok0 : ab_all2 ab_mok ab_mT0 [[1162], [4001], [4099], [3175], [4090], [4035], [4052], [4048], [4095], [4080], [4040], [1050], [3187], [3100], [3012], [2060], [2067], [2210], [3081], [3035], [2181], [3125], [2189], [3004], [3016], [3000], [3077], [3025], [3021], [3008], [3135], [3061], [3088], [3109], [3105], [1134], [4210], [2206], [1101], [2071]] = true := by decide +kernel
set_option maxRecDepth 100000 in
theorem ab_mok1 : ab_all2 ab_mok ab_mT1 [[2173], [2165], [2078], [2088], [2177], [2101], [2096], [2198], [2193], [2169], [2161], [2056], [2157], [2075], [2105], [2082], [2092], [1156], [3196], [3227], [4117], [3235], [4016], [3222], [4009], [4012], [4019], [3231], [3218], [4023], [3205], [3180], [4005], [3213], [3209], [1031], [2041], [2037], [4223], [1023]] = true := by decide +kernel
set_option maxRecDepth 100000 in
theorem ab_mok2 : ab_all2 ab_mok ab_mT2 [[3043], [4107], [4061], [2224], [3171], [3057], [4031], [4201], [4140], [2045], [4157], [2220], [2033], [2228], [4144], [2236], [3051], [3047], [4076], [3114], [3117], [2052], [2202], [4085], [3065], [3039], [2232], [3167], [4127], [4231], [4122], [4027], [4193], [3092], [3069], [4112], [4103], [4135], [4065], [4056]] = true := by decide +kernel
set_option maxRecDepth 100000 in
theorem ab_mok3 : ab_all2 ab_mok ab_mT3 [[4214], [2049], [3096], [4206], [4069], [4197], [3163], [3073], [4218], [4227], [4236], [6013], [6042], [6084], [6181], [5188], [6092], [6173], [5113], [7001], [6153], [5212], [6021], [6000], [5117], [6088], [5094], [6201], [6209], [5125], [7005], [5208], [5157], [5121], [6128], [6225], [5191], [5165], [6161], [5101]] = true := by decide +kernel
set_option maxRecDepth 100000 in
theorem ab_mok4 : ab_all2 ab_mok ab_mT4 [[6116], [6104], [6205], [5137], [6112], [6177], [6100], [6132], [6059], [6039], [6136], [5220], [6108], [6017], [5169], [5097], [5224], [5236], [5147], [5181], [5195], [6165], [6025], [5204], [6068], [6009], [6072], [6005], [5177], [5216], [6229], [6237], [7024], [7028], [7009], [7019], [7033], [7014], [6120], [6213]] = true := by decide +kernel
set_option maxRecDepth 100000 in
theorem ab_mok5 : ab_all2 ab_mok ab_mT5 [[6080], [5153], [5133], [7061], [5184], [5232], [5228], [5161], [6233], [5105], [6185], [5200], [5173], [5142], [5109], [6197], [6144], [7037], [7053], [7049], [7057], [6124], [6046], [6029], [6189], [6193], [6169], [6217], [6157], [6149], [7045], [5129], [6052], [5090], [6140], [7041], [6056], [6064], [6076], [6221]] = true := by decide +kernel
set_option maxRecDepth 100000 in
theorem ab_mok6 : ab_all2 ab_mok ab_mT6 [[6035], [6096], [3155], [4130], [3128], [3142], [3147], [3158], [3183], [3191], [3150], [3120], [3131], [3138], [4072], [4152], [4166], [4160], [4187], [4147], [4163], [4173], [4170], [4184], [3028], [4043], [2063]] = true := by decide +kernel
theorem ab_mT_ok : ∀ q ∈ ab_mT, ∃ i, ab_mok q i = true := by
  intro q hq
  unfold ab_mT at hq
  simp only [List.mem_append] at hq
  rcases hq with h | h | h | h | h | h | h
  · exact ab_all2_mem ab_mok0 q h
  · exact ab_all2_mem ab_mok1 q h
  · exact ab_all2_mem ab_mok2 q h
  · exact ab_all2_mem ab_mok3 q h
  · exact ab_all2_mem ab_mok4 q h
  · exact ab_all2_mem ab_mok5 q h
  · exact ab_all2_mem ab_mok6 q h
def ab_cI0 : List (List Nat) := [[1024, 1025, 1026], [1099, 1100, 1004], [1132, 1133, 1005], [1154, 1155, 1006], [2034, 2035, 2036, 1002], [2050, 2051, 1001], [2053, 2054, 2055, 1004], [2199, 2201, 15, 1001], [2225, 2227, 16, 1001], [2233, 2235, 17, 1001], [2237, 2238, 2239, 1003], [3001, 3002, 3003, 1003], [3013, 3014, 3015, 1003], [3017, 3006, 3007, 1003], [3018, 3019, 3020, 1003], [3032, 3033, 3034, 1003], [3044, 3046, 18, 1001], [3052, 2179, 2180, 1003], [2203, 2204, 2205, 1005], [3053, 2187, 2188, 1003], [3058, 3059, 3060, 1003], [3048, 3050, 19, 1001], [3074, 3075, 3076, 1003], [3078, 3079, 3080, 1003], [3085, 3086, 3087, 1003], [3097, 3098, 3099, 1003], [3102, 3103, 3104, 1003], [3106, 3107, 3108, 1003], [3115, 3116, 1001], [3118, 3119, 1017], [3168, 3170, 20, 1001], [4028, 4030, 33, 1001], [4057, 3027, 1016], [4070, 4071, 1017], [4077, 4078, 4079, 1007], [2215, 2208, 2209, 1003], [4086, 2065, 2066, 1003], [4087, 4088, 4089, 1007], [3177, 3178, 3179, 1006], [4092, 4093, 4094, 1007], [3172, 3173, 3174, 1007], [4108, 3182, 1017], [4113, 2184, 1010, 2185], [4114, 4115, 4116, 1006], [4123, 3123, 3124, 1003], [4128, 4129, 1017], [4136, 3133, 3134, 1003], [4145, 4146, 1018], [4158, 4159, 1018], [4194, 3083, 1010, 3084], [4195, 4196, 1001], [4202, 2058, 2059, 1003], [4207, 4208, 4209, 1005], [4215, 4217, 35, 1001], [4224, 4226, 36, 1001], [4032, 4033, 4034, 1007], [4037, 4038, 4039, 1007], [4045, 4046, 4047, 1007], [4049, 4050, 4051, 1007], [4219, 2039, 2040, 1002], [4220, 4221, 4222, 1002], [1163, 1025, 1026], [3176, 2062, 1009], [4036, 3173, 3174, 1007], [4091, 2213, 2212, 1015], [4041, 4042, 1016], [4081, 3027, 1016], [4096, 4098, 34, 1007], [3139, 3002, 3003, 1003], [3121, 3098, 3099, 1003], [3122, 3123, 3124, 1003], [3126, 3127, 1017], [3129, 3130, 1017], [3136, 3137, 1017], [3140, 3141, 1017], [3145, 3146, 1017], [3132, 3133, 3134, 1003], [3143, 3086, 3087, 1003], [3144, 3079, 3080, 1003], [3148, 3149, 1017], [3153, 3154, 1017], [3156, 3157, 1017], [3151, 2084, 1010, 2085], [3152, 2184, 1010, 2185], [3159, 3083, 1010, 3084], [3184, 3185, 3186, 1003], [3188, 3014, 3015, 1003], [3189, 3190, 1017], [3192, 3023, 3024, 1003], [4131, 3119, 1017], [4161, 4162, 1018], [4168, 4169, 1018], [4171, 4172, 1018], [4185, 4186, 1018], [4167, 2058, 2059, 1003], [4153, 2187, 2188, 1003], [4164, 4165, 1018], [4182, 4183, 1018], [4148, 3133, 3134, 1003], [4149, 2208, 2209, 1003], [4150, 4151, 1018], [1051, 1025, 1026], [2061, 2062, 1009], [2064, 2065, 2066, 1003], [2211, 2213, 2212, 1015], [2182, 2084, 1010, 2085], [2183, 2184, 1010, 2185], [3026, 3027, 1016], [3022, 3023, 3024, 1003], [3009, 3010, 3011, 1003], [3005, 3006, 3007, 1003], [3101, 2238, 2239, 1003], [3082, 3083, 1010, 3084], [3110, 3079, 3080, 1003], [1135, 1025, 1026], [2207, 2208, 2209, 1003], [2214, 2084, 1010, 2085], [1102, 1025, 1026], [2057, 2058, 2059, 1003], [2068, 2070, 0, 1004], [2093, 2095, 4, 1004], [2158, 2160, 8, 1004], [2190, 2192, 13, 1004], [2162, 2164, 9, 1004], [2154, 2156, 7, 1004], [2102, 2104, 6, 1004], [2098, 2100, 5, 1004], [2166, 2168, 10, 1004], [2174, 2176, 12, 1004], [2170, 2172, 11, 1004], [2178, 2179, 2180, 1003], [2186, 2187, 2188, 1003], [2195, 2197, 14, 1004], [2072, 2074, 1, 1004], [2076, 2077, 1004], [2079, 2081, 2, 1004], [2086, 2087, 1004], [2089, 2091, 3, 1004], [2083, 2084, 1010, 2085], [], [], [1157, 1025, 1026], [3181, 3182, 1017], [4118, 3173, 3174, 1007], [3193, 3195, 21, 1006], [4006, 4008, 30, 1006], [4010, 4011, 1006], [3202, 3204, 22, 1006], [3219, 3221, 26, 1006], [3229, 3230, 1006], [3197, 3127, 1017], [3198, 3137, 1017], [3200, 2238, 2239, 1003], [3201, 2062, 1009], [3206, 3208, 23, 1006], [3215, 3217, 25, 1006], [3223, 3027, 1016], [3224, 3226, 27, 1006], [3228, 3023, 3024, 1003], [3210, 3212, 24, 1006], [3214, 3083, 1010, 3084], [4002, 4004, 29, 1006], [4013, 4015, 31, 1006], [4017, 4018, 1006], [4020, 4022, 32, 1006], [3232, 3234, 28, 1006], [3236, 3149, 1017], [3237, 3157, 1017], [3238, 3239, 4000, 1007], [1032, 1025, 1026]]
def ab_cI1 : List (List Nat) := [[2038, 2039, 2040, 1002], [1021, 1022, 1001], [4234, 4235, 1008], [2030, 2031, 2032, 1001], [5118, 5119, 5120, 1008], [2042, 2043, 2044, 1001], [5122, 5123, 5124, 1008], [2046, 2047, 2048, 1001], [5126, 5127, 5128, 1008], [2217, 2218, 2219, 1001], [5205, 5206, 5207, 1008], [2221, 2222, 2223, 1001], [5209, 5210, 5211, 1008], [2229, 2230, 2231, 1001], [5213, 5214, 5215, 1008], [3036, 3037, 3038, 1001], [6002, 6003, 6004, 1008], [3040, 3041, 3042, 1001], [6010, 6011, 6012, 1008], [3054, 3055, 3056, 1001], [6018, 6019, 6020, 1008], [3062, 3063, 3064, 1001], [6022, 6023, 6024, 1008], [3066, 3067, 3068, 1001], [6026, 6027, 6028, 1008], [3070, 3071, 3072, 1001], [6032, 6033, 6034, 1008], [3089, 3090, 3091, 1001], [6043, 6044, 6045, 1008], [3093, 3094, 3095, 1001], [6049, 6050, 6051, 1008], [3111, 3112, 3113, 1001], [6113, 6114, 6115, 1008], [3160, 3161, 3162, 1001], [6053, 6054, 6055, 1008], [3164, 3165, 3166, 1001], [6117, 6118, 6119, 1008], [4024, 4025, 4026, 1001], [6141, 6142, 6143, 1008], [4053, 4054, 4055, 1001], [6146, 6147, 6148, 1008], [4058, 4059, 4060, 1001], [6150, 6151, 6152, 1008], [4062, 4063, 4064, 1001], [6154, 6155, 6156, 1008], [4066, 4067, 4068, 1001], [6137, 6138, 6139, 1008], [4073, 4074, 4075, 1001], [6158, 6159, 6160, 1008], [4082, 4083, 4084, 1001], [6162, 6163, 6164, 1008], [4100, 4101, 4102, 1001], [6166, 6167, 6168, 1008], [4104, 4105, 4106, 1001], [6170, 6171, 6172, 1008], [4109, 4110, 4111, 1001], [6186, 6187, 6188, 1008], [4119, 4120, 4121, 1001], [6194, 6195, 6196, 1008], [4124, 4125, 4126, 1001], [6210, 6211, 6212, 1008], [4132, 4133, 4134, 1001], [6214, 6215, 6216, 1008], [4137, 4138, 4139, 1001], [6198, 6199, 6200, 1008], [4141, 4142, 4143, 1001], [6222, 6223, 6224, 1008], [4154, 4155, 4156, 1001], [7002, 7003, 7004, 1008], [4190, 4191, 4192, 1001], [7034, 7035, 7036, 1008], [4198, 4199, 4200, 1001], [5091, 5092, 5093, 1008], [4203, 4204, 4205, 1001], [5087, 5088, 5089, 1008], [4211, 4212, 4213, 1001], [7042, 7043, 7044, 1008], [4228, 4229, 4230, 1001], [7058, 7059, 7060, 1008], [4237, 1025, 1026], [5099, 5100, 1008], [5095, 5096, 1008], [5102, 5104, 37, 1008], [5217, 5219, 57, 1008], [5178, 5180, 52, 1008], [5189, 5190, 1008], [5182, 5183, 1008], [5106, 5108, 38, 1008], [5110, 5112, 39, 1008], [5114, 5116, 40, 1008], [5134, 5136, 42, 1008], [5138, 2084, 1010, 2085], [5130, 5132, 41, 1008], [5154, 5156, 46, 1008], [5158, 5160, 47, 1008], [], [], [5162, 5164, 48, 1008], [5174, 5176, 51, 1008], [5166, 5168, 49, 1008], [5150, 5152, 45, 1008], [5185, 5187, 53, 1008], [5192, 5194, 54, 1008], [5201, 5203, 56, 1008], [5144, 5146, 44, 1008], [5170, 5172, 50, 1008], [5197, 5199, 55, 1008], [5139, 5141, 43, 1008], [5229, 5231, 60, 1008], [5225, 5227, 59, 1008], [6001, 2184, 1010, 2185], [5221, 5223, 58, 1008], [5233, 5235, 61, 1008], [5237, 5239, 62, 1008], [6006, 6008, 63, 1008], [6014, 6016, 64, 1008], [6036, 6038, 65, 1008], [6040, 6041, 1008], [6047, 6033, 6034, 1008], [6085, 6087, 72, 1008], [6093, 6095, 74, 1008], [6101, 6103, 76, 1008], [6105, 6107, 77, 1008], [6109, 6111, 78, 1008], [6077, 6079, 70, 1008], [6081, 6083, 71, 1008], [6089, 6091, 73, 1008], [6097, 6099, 75, 1008], [6069, 6071, 68, 1008], [6065, 6067, 67, 1008], [6073, 6075, 69, 1008], [6057, 6058, 1008], [6061, 6063, 66, 1008], [6133, 6135, 82, 1008], [6129, 6131, 81, 1008], [6125, 6127, 80, 1008], [6121, 6123, 79, 1008], [6178, 6180, 84, 1008], [6174, 6176, 83, 1008], [6182, 6184, 85, 1008], [6190, 6192, 86, 1008], [6202, 6204, 87, 1008], [6206, 6208, 88, 1008], [6218, 6220, 89, 1008], [6226, 6228, 90, 1008], [6230, 6232, 91, 1008], [6234, 6236, 92, 1008], [6238, 7000, 93, 1008], [7021, 7023, 97, 1008], [7006, 7008, 94, 1008], [7011, 7013, 95, 1008], [7016, 7018, 96, 1008], [7025, 7027, 98, 1008], [7030, 7032, 99, 1008], [7038, 7040, 100, 1008], [7054, 7056, 103, 1008], [7050, 7052, 102, 1008], [7046, 7048, 101, 1008], [1030, 1002], [1049, 1003], [1049, 1003], [1161, 1007]]
set_option maxRecDepth 100000 in
theorem ab_cok0 : ab_all2 ab_cok ab_cT0 ab_cI0 = true := by decide +kernel
set_option maxRecDepth 100000 in
theorem ab_cok1 : ab_all2 ab_cok ab_cT1 ab_cI1 = true := by decide +kernel
theorem ab_cT_ok : ∀ q ∈ ab_cT, ∃ i, ab_cok q i = true := by
  intro q hq
  rcases List.mem_append.mp hq with h | h
  · exact ab_all2_mem ab_cok0 q h
  · exact ab_all2_mem ab_cok1 q h
set_option maxRecDepth 100000 in
theorem ab_fok0 : ab_all2 ab_fok ab_fT [[1236], [1238], [1239], [2000], [1237], [2001], [2002], [2003], [2004], [2005], [2006], [1037], [1104], [1106], [1062], [1139], [1056], [1067], [1072], [1080], [1190], [1166], [1168], [1035], [1164], [1167], [1169], [1170], [1171], [1172], [1173], [1057], [1079], [1061], [1054], [1077], [1066], [1071], [1053], [1076], [1063], [1068], [1073], [1052], [1059], [1065], [1070], [1075], [1082], [1138], [1140], [1141], [1142], [1103], [1105], [1109], [1110], [1111], [1112], [1107], [1108], [1064], [1081], [1058], [1038], [1034], [1189], [1191], [1192], [1193], [1194], [1196], [1197], [1198], [1199], [1200], [1201], [1202], [1203], [1204], [1195], [1060], [1165], [1055], [1078], [1083], [1069], [1074], [1033], [1036], [4238], [4239], [5000], [5002], [5005], [5011], [5012], [5014], [5017], [5018], [5022], [5023], [5024], [5025], [5001], [5003], [5006], [5007], [5009], [5008], [5010], [5004], [5026], [5013], [5015], [5016], [5021], [5019], [5020]] = true := by decide +kernel
theorem ab_fT_ok : ∀ q ∈ ab_fT, ∃ i, ab_fok q i = true := ab_all2_mem ab_fok0
set_option maxRecDepth 100000 in
theorem ab_sok0 : ab_all2 ab_sok ab_sT [[4174], [4176], [4178], [4180], [4188]] = true := by decide +kernel
theorem ab_sT_ok : ∀ q ∈ ab_sT, ∃ i, ab_sok q i = true := ab_all2_mem ab_sok0
set_option maxRecDepth 100000 in
theorem ab_kok0 : ab_all2 ab_kok ab_kT [[3199], [6145], [4044], [3029], [3030], [3031]] = true := by decide +kernel
theorem ab_kT_ok : ∀ q ∈ ab_kT, ∃ i, ab_kok q i = true := ab_all2_mem ab_kok0
set_option maxRecDepth 100000 in
theorem ab_lok0 : ab_all2 ab_lok ab_lT [[5098], [6060], [6030], [6031], [6048], [7010], [7015], [7020], [7029]] = true := by decide +kernel
theorem ab_lT_ok : ∀ q ∈ ab_lT, ∃ i, ab_lok q i = true := ab_all2_mem ab_lok0
set_option maxRecDepth 100000 in
theorem ab_nok0 : ab_all2 ab_nok ab_nT [[1027, 1028, 1002], [1045, 1047, 1003], [1097, 1098, 1004], [1130, 1131, 1005], [1152, 1153, 1006], [1136, 1047, 1003], [1158, 1159, 1007], [1019, 1020, 1001], [4232, 4233, 1008]] = true := by decide +kernel
theorem ab_nT_ok : ∀ q ∈ ab_nT, ∃ i, ab_nok q i = true := ab_all2_mem ab_nok0
set_option maxRecDepth 100000 in
theorem ab_u0 : ab_ats (u_ws RX0 TX0 7) [1174, 1176, 1178, 1180, 1182, 1184, 1186] = true := by decide +kernel
set_option maxRecDepth 100000 in
theorem ab_u1 : ab_ats (u_ws RX3 TX3 6) [1084, 1086, 1088, 1090, 1092, 1094] = true := by decide +kernel
set_option maxRecDepth 100000 in
theorem ab_u2 : ab_ats (u_ws RX4 TX4 4) [1143, 1145, 1147, 1149] = true := by decide +kernel
set_option maxRecDepth 100000 in
theorem ab_u3 : ab_ats (u_ws RX5 TX5 8) [1113, 1115, 1117, 1119, 1121, 1123, 1125, 1127] = true := by decide +kernel
set_option maxRecDepth 100000 in
theorem ab_u4 : ab_ats (u_ws RX6 TX6 15) [1205, 1207, 1209, 1211, 1213, 1215, 1217, 1219, 1221, 1223, 1225, 1227, 1229, 1231, 1233] = true := by decide +kernel
set_option maxRecDepth 100000 in
theorem ab_u5 : ab_ats (u_ws RX7 TX7 2) [1039, 1041] = true := by decide +kernel
set_option maxRecDepth 100000 in
theorem ab_u6 : ab_ats (u_ws RX8 TX8 11) [2007, 2009, 2011, 2013, 2015, 2017, 2019, 2021, 2023, 2025, 2027] = true := by decide +kernel
set_option maxRecDepth 100000 in
theorem ab_u7 : ab_ats (u_ws RX9 TX9 29) [5027, 5029, 5031, 5033, 5035, 5037, 5039, 5041, 5043, 5045, 5047, 5049, 5051, 5053, 5055, 5057, 5059, 5061, 5063, 5065, 5067, 5069, 5071, 5073, 5075, 5077, 5079, 5081, 5083] = true := by decide +kernel
set_option maxRecDepth 100000 in
theorem ab_aw : ab_ats [.arrayClass .int, .arrayClass .boolean] [1044, 5086] = true := by decide +kernel
def ab_nest : List Jvm.Cond := [.methodLinkNest RX8 9 yX7_init "FairLabels", .methodLinkNest RX8 25 yX3_init "FairLabels", .methodLinkNest RX4 28 yX3_init "FairLabels", .methodLinkNest RX6 11 yX0_init "FairLabels"]
set_option maxRecDepth 100000 in
theorem ab_nest_in : ∀ w ∈ ab_nest, w ∈ lw_tbl := by
  intro w hw
  simp only [ab_nest, List.mem_cons, List.not_mem_nil, or_false] at hw
  rcases hw with rfl | rfl | rfl | rfl
  · exact ab_tb_in (k := 1) (List.mem_of_getElem? (i := 29) (by decide +kernel))
  · exact ab_tb_in (k := 1) (List.mem_of_getElem? (i := 48) (by decide +kernel))
  · exact ab_tb_in (k := 1) (List.mem_of_getElem? (i := 137) (by decide +kernel))
  · exact ab_tb_in (k := 1) (List.mem_of_getElem? (i := 160) (by decide +kernel))
/-- what a class of the worlds brings: types, unlike names, its words -/
theorem ab_vw_ok {ci : Nat} {C : String} {T : u_T} {N : Nat} (h : ab_vw[ci]? = some (C, T, N)) : ∃ ty0 : Nat → FieldType, (∀ k, k < N → parseFieldDescriptor (T k).2.2.1 = some (ty0 k)) ∧ (∀ a, a < N → ∀ b, b < N → a ≠ b → (T a).2.1 ≠ (T b).2.1) ∧ ∀ w ∈ u_ws C T N, w ∈ ab_W := by
  match ci, h with
  | 0, h => cases h; exact ⟨tyX0, tyX0_ok, nmX0, ab_ats_mem ab_u0⟩
  | 1, h => cases h; exact ⟨tyX3, tyX3_ok, nmX3, ab_ats_mem ab_u1⟩
  | 2, h => cases h; exact ⟨tyX4, tyX4_ok, nmX4, ab_ats_mem ab_u2⟩
  | 3, h => cases h; exact ⟨tyX5, tyX5_ok, nmX5, ab_ats_mem ab_u3⟩
  | 4, h => cases h; exact ⟨tyX6, tyX6_ok, nmX6, ab_ats_mem ab_u4⟩
  | 5, h => cases h; exact ⟨tyX7, tyX7_ok, nmX7, ab_ats_mem ab_u5⟩
  | 6, h => cases h; exact ⟨tyX8, tyX8_ok, nmX8, ab_ats_mem ab_u6⟩
  | 7, h => cases h; exact ⟨tyX9, tyX9_ok, nmX9, ab_ats_mem ab_u7⟩
  | ci + 8, h => simp [ab_vw] at h
