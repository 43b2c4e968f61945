/-! ===== 69f: the law's code, a table for each case (gen69f.py) ===== -/
def t_W_50 : MC := [(2721, .aload_n 1, 1), (2722, .aload_n 0, 1), (2723, .iload 4, 2), (2725, .iconst 1, 1), (2726, .iadd, 1), (2727, .iaload, 1), (2728, .aload_n 0, 1), (2729, .iload 4, 2), (2731, .iconst 2, 1), (2732, .iadd, 1), (2733, .iaload, 1), (2734, .aload_n 3, 1), (2735, .invokestatic 327, 3), (2738, .istore 5, 2), (2740, .aload_n 2, 1), (2741, .aload_n 0, 1), (2742, .iload 4, 2), (2744, .iconst 1, 1), (2745, .iadd, 1), (2746, .iaload, 1), (2747, .aload_n 0, 1), (2748, .iload 4, 2), (2750, .iconst 2, 1), (2751, .iadd, 1), (2752, .iaload, 1), (2753, .invokevirtual 329, 3), (2756, .istore 6, 2), (2758, .aload_n 2, 1), (2759, .invokevirtual 193, 3), (2762, .iload 5, 2), (2764, .if_icmp .eq 5, 3), (2769, .iload 5, 2), (2771, .ifCond .ne 15, 3), (2774, .aload_n 3, 1), (2775, .iconst 0, 1), (2776, .laload, 1), (2777, .iload 6, 2), (2779, .i2l, 1), (2780, .lcmp, 1), (2781, .ifCond .eq 5, 3), (2786, .goto 344, 3)]
set_option maxRecDepth 20000 in
theorem d_W_50 : ∀ q ∈ t_W_50, decode cL_law q.1 = .ok q.2 := by decide +kernel
def z_W_50 (nm : String) : MZ := (⟨RL, nm, "([I)Z"⟩, cL_law, 9, (some .boolean), t_W_50, [])
theorem zo_W_50 (nm : String) : ZOK (z_W_50 nm) := ⟨d_W_50, by intro q hq; cases hq⟩
def t_W_51 : MC := [(2789, .aload_n 1, 1), (2790, .aload_n 0, 1), (2791, .iload 4, 2), (2793, .iconst 1, 1), (2794, .iadd, 1), (2795, .iaload, 1), (2796, .aload_n 0, 1), (2797, .iload 4, 2), (2799, .iconst 2, 1), (2800, .iadd, 1), (2801, .iaload, 1), (2802, .aload_n 3, 1), (2803, .invokestatic 330, 3), (2806, .istore 5, 2), (2808, .aload_n 2, 1), (2809, .aload_n 0, 1), (2810, .iload 4, 2), (2812, .iconst 1, 1), (2813, .iadd, 1), (2814, .iaload, 1), (2815, .aload_n 0, 1), (2816, .iload 4, 2), (2818, .iconst 2, 1), (2819, .iadd, 1), (2820, .iaload, 1), (2821, .invokevirtual 332, 3), (2824, .istore 6, 2), (2826, .aload_n 2, 1), (2827, .invokevirtual 193, 3), (2830, .iload 5, 2), (2832, .if_icmp .eq 5, 3), (2837, .iload 5, 2), (2839, .ifCond .ne 15, 3), (2842, .aload_n 3, 1), (2843, .iconst 0, 1), (2844, .laload, 1), (2845, .iload 6, 2), (2847, .i2l, 1), (2848, .lcmp, 1), (2849, .ifCond .eq 5, 3), (2854, .goto 276, 3)]
set_option maxRecDepth 20000 in
theorem d_W_51 : ∀ q ∈ t_W_51, decode cL_law q.1 = .ok q.2 := by decide +kernel
def z_W_51 (nm : String) : MZ := (⟨RL, nm, "([I)Z"⟩, cL_law, 9, (some .boolean), t_W_51, [])
theorem zo_W_51 (nm : String) : ZOK (z_W_51 nm) := ⟨d_W_51, by intro q hq; cases hq⟩
def t_W_52 : MC := [(2857, .aload_n 1, 1), (2858, .aload_n 0, 1), (2859, .iload 4, 2), (2861, .iconst 1, 1), (2862, .iadd, 1), (2863, .iaload, 1), (2864, .aload_n 0, 1), (2865, .iload 4, 2), (2867, .iconst 2, 1), (2868, .iadd, 1), (2869, .iaload, 1), (2870, .ifCond .eq 7, 3), (2873, .iconst 1, 1), (2874, .goto 4, 3), (2877, .iconst 0, 1), (2878, .aload_n 3, 1), (2879, .invokestatic 333, 3), (2882, .istore 5, 2), (2884, .aload_n 2, 1), (2885, .aload_n 0, 1), (2886, .iload 4, 2), (2888, .iconst 1, 1), (2889, .iadd, 1), (2890, .iaload, 1), (2891, .aload_n 0, 1), (2892, .iload 4, 2), (2894, .iconst 2, 1), (2895, .iadd, 1), (2896, .iaload, 1), (2897, .ifCond .eq 7, 3), (2900, .iconst 1, 1), (2901, .goto 4, 3), (2904, .iconst 0, 1), (2905, .invokevirtual 336, 3), (2908, .istore 6, 2), (2910, .aload_n 2, 1), (2911, .invokevirtual 193, 3), (2914, .iload 5, 2), (2916, .if_icmp .eq 5, 3), (2921, .iload 5, 2), (2923, .ifCond .ne 22, 3), (2926, .aload_n 3, 1), (2927, .iconst 0, 1), (2928, .laload, 1), (2929, .iload 6, 2), (2931, .ifCond .eq 7, 3), (2934, .lconst 1, 1), (2935, .goto 4, 3), (2938, .lconst 0, 1), (2939, .lcmp, 1), (2940, .ifCond .eq 5, 3), (2945, .goto 185, 3)]
set_option maxRecDepth 20000 in
theorem d_W_52 : ∀ q ∈ t_W_52, decode cL_law q.1 = .ok q.2 := by decide +kernel
def z_W_52 (nm : String) : MZ := (⟨RL, nm, "([I)Z"⟩, cL_law, 9, (some .boolean), t_W_52, [])
theorem zo_W_52 (nm : String) : ZOK (z_W_52 nm) := ⟨d_W_52, by intro q hq; cases hq⟩
def t_W_53 : MC := [(2948, .aload_n 1, 1), (2949, .aload_n 3, 1), (2950, .invokestatic 337, 3), (2953, .istore 5, 2), (2955, .aload_n 2, 1), (2956, .invokevirtual 340, 3), (2959, .istore 6, 2), (2961, .aload_n 2, 1), (2962, .invokevirtual 193, 3), (2965, .iload 5, 2), (2967, .if_icmp .eq 5, 3), (2972, .iload 5, 2), (2974, .ifCond .ne 15, 3), (2977, .aload_n 3, 1), (2978, .iconst 0, 1), (2979, .laload, 1), (2980, .iload 6, 2), (2982, .i2l, 1), (2983, .lcmp, 1), (2984, .ifCond .eq 5, 3), (2989, .goto 141, 3)]
set_option maxRecDepth 20000 in
theorem d_W_53 : ∀ q ∈ t_W_53, decode cL_law q.1 = .ok q.2 := by decide +kernel
def z_W_53 (nm : String) : MZ := (⟨RL, nm, "([I)Z"⟩, cL_law, 9, (some .boolean), t_W_53, [])
theorem zo_W_53 (nm : String) : ZOK (z_W_53 nm) := ⟨d_W_53, by intro q hq; cases hq⟩
def t_W_54 : MC := [(2992, .aload_n 1, 1), (2993, .aload_n 0, 1), (2994, .iload 4, 2), (2996, .iconst 1, 1), (2997, .iadd, 1), (2998, .iaload, 1), (2999, .aload_n 3, 1), (3000, .invokestatic 341, 3), (3003, .istore 5, 2), (3005, .aload_n 2, 1), (3006, .aload_n 0, 1), (3007, .iload 4, 2), (3009, .iconst 1, 1), (3010, .iadd, 1), (3011, .iaload, 1), (3012, .invokevirtual 343, 3), (3015, .istore 6, 2), (3017, .aload_n 2, 1), (3018, .invokevirtual 193, 3), (3021, .iload 5, 2), (3023, .if_icmp .eq 5, 3), (3028, .iload 5, 2), (3030, .ifCond .ne 15, 3), (3033, .aload_n 3, 1), (3034, .iconst 0, 1), (3035, .laload, 1), (3036, .iload 6, 2), (3038, .i2l, 1), (3039, .lcmp, 1), (3040, .ifCond .eq 5, 3), (3045, .goto 85, 3)]
set_option maxRecDepth 20000 in
theorem d_W_54 : ∀ q ∈ t_W_54, decode cL_law q.1 = .ok q.2 := by decide +kernel
def z_W_54 (nm : String) : MZ := (⟨RL, nm, "([I)Z"⟩, cL_law, 9, (some .boolean), t_W_54, [])
theorem zo_W_54 (nm : String) : ZOK (z_W_54 nm) := ⟨d_W_54, by intro q hq; cases hq⟩
def t_W_55 : MC := [(3048, .aload_n 1, 1), (3049, .aload_n 0, 1), (3050, .iload 4, 2), (3052, .iconst 1, 1), (3053, .iadd, 1), (3054, .iaload, 1), (3055, .invokevirtual 344, 3), (3058, .aload_n 2, 1), (3059, .aload_n 0, 1), (3060, .iload 4, 2), (3062, .iconst 1, 1), (3063, .iadd, 1), (3064, .iaload, 1), (3065, .invokevirtual 347, 3), (3068, .if_icmp .eq 62, 3)]
set_option maxRecDepth 20000 in
theorem d_W_55 : ∀ q ∈ t_W_55, decode cL_law q.1 = .ok q.2 := by decide +kernel
def z_W_55 (nm : String) : MZ := (⟨RL, nm, "([I)Z"⟩, cL_law, 9, (some .boolean), t_W_55, [])
theorem zo_W_55 (nm : String) : ZOK (z_W_55 nm) := ⟨d_W_55, by intro q hq; cases hq⟩
def t_W_56 : MC := [(3073, .aload_n 1, 1), (3074, .invokevirtual 348, 3), (3077, .aload_n 2, 1), (3078, .invokevirtual 351, 3), (3081, .if_icmp .eq 49, 3)]
set_option maxRecDepth 20000 in
theorem d_W_56 : ∀ q ∈ t_W_56, decode cL_law q.1 = .ok q.2 := by decide +kernel
def z_W_56 (nm : String) : MZ := (⟨RL, nm, "([I)Z"⟩, cL_law, 9, (some .boolean), t_W_56, [])
theorem zo_W_56 (nm : String) : ZOK (z_W_56 nm) := ⟨d_W_56, by intro q hq; cases hq⟩
def t_W_57 : MC := [(3086, .aload_n 1, 1), (3087, .aload_n 3, 1), (3088, .invokestatic 352, 3), (3091, .istore 5, 2), (3093, .aload_n 2, 1), (3094, .invokevirtual 354, 3), (3097, .istore 6, 2), (3099, .aload_n 2, 1), (3100, .invokevirtual 193, 3), (3103, .iload 5, 2), (3105, .if_icmp .eq 5, 3), (3110, .iload 5, 2), (3112, .ifCond .ne 15, 3), (3115, .aload_n 3, 1), (3116, .iconst 0, 1), (3117, .laload, 1), (3118, .iload 6, 2), (3120, .i2l, 1), (3121, .lcmp, 1), (3122, .ifCond .eq 5, 3), (3127, .goto 3, 3)]
set_option maxRecDepth 20000 in
theorem d_W_57 : ∀ q ∈ t_W_57, decode cL_law q.1 = .ok q.2 := by decide +kernel
def z_W_57 (nm : String) : MZ := (⟨RL, nm, "([I)Z"⟩, cL_law, 9, (some .boolean), t_W_57, [])
theorem zo_W_57 (nm : String) : ZOK (z_W_57 nm) := ⟨d_W_57, by intro q hq; cases hq⟩
