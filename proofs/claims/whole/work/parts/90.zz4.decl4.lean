theorem bdL_law_2927 : dAll cL_law [(2927, (.iadd, 1)), (2928, (.iaload, 1)), (2929, (.aload_n 0, 1)), (2930, (.iload 4, 2)), (2932, (.iconst 3, 1)), (2933, (.iadd, 1)), (2934, (.iaload, 1)), (2935, (.invokevirtual 361, 3)), (2938, (.istore 6, 2)), (2940, (.aload_n 2, 1)), (2941, (.invokevirtual 192, 3)), (2944, (.iload 5, 2)), (2946, (.if_icmp .eq 5, 3)), (2951, (.iload 5, 2)), (2953, (.ifCond .ne 15, 3)), (2968, (.goto 523, 3)), (2971, (.aload_n 1, 1)), (2972, (.aload_n 0, 1)), (2973, (.iload 4, 2)), (2975, (.iconst 1, 1)), (2976, (.iadd, 1)), (2977, (.iaload, 1)), (2978, (.aload_n 0, 1)), (2979, (.iload 4, 2)), (2981, (.iconst 2, 1)), (2982, (.iadd, 1)), (2983, (.iaload, 1)), (2984, (.aload_n 3, 1)), (2985, (.invokestatic 362, 3)), (2988, (.istore 5, 2)), (2990, (.aload_n 2, 1)), (2991, (.aload_n 0, 1)), (2992, (.iload 4, 2)), (2994, (.iconst 1, 1)), (2995, (.iadd, 1)), (2996, (.iaload, 1)), (2997, (.aload_n 0, 1)), (2998, (.iload 4, 2)), (3000, (.iconst 2, 1)), (3001, (.iadd, 1))] = true := by decide +kernel
theorem dL_law_2927 : decode cL_law 2927 = .ok (.iadd, 1) := dAt bdL_law_2927 0 rfl
theorem dL_law_2928 : decode cL_law 2928 = .ok (.iaload, 1) := dAt bdL_law_2927 1 rfl
theorem dL_law_2929 : decode cL_law 2929 = .ok (.aload_n 0, 1) := dAt bdL_law_2927 2 rfl
theorem dL_law_2930 : decode cL_law 2930 = .ok (.iload 4, 2) := dAt bdL_law_2927 3 rfl
theorem dL_law_2932 : decode cL_law 2932 = .ok (.iconst 3, 1) := dAt bdL_law_2927 4 rfl
theorem dL_law_2933 : decode cL_law 2933 = .ok (.iadd, 1) := dAt bdL_law_2927 5 rfl
theorem dL_law_2934 : decode cL_law 2934 = .ok (.iaload, 1) := dAt bdL_law_2927 6 rfl
theorem dL_law_2935 : decode cL_law 2935 = .ok (.invokevirtual 361, 3) := dAt bdL_law_2927 7 rfl
theorem dL_law_2938 : decode cL_law 2938 = .ok (.istore 6, 2) := dAt bdL_law_2927 8 rfl
theorem dL_law_2940 : decode cL_law 2940 = .ok (.aload_n 2, 1) := dAt bdL_law_2927 9 rfl
theorem dL_law_2941 : decode cL_law 2941 = .ok (.invokevirtual 192, 3) := dAt bdL_law_2927 10 rfl
theorem dL_law_2944 : decode cL_law 2944 = .ok (.iload 5, 2) := dAt bdL_law_2927 11 rfl
theorem dL_law_2946 : decode cL_law 2946 = .ok (.if_icmp .eq 5, 3) := dAt bdL_law_2927 12 rfl
theorem dL_law_2951 : decode cL_law 2951 = .ok (.iload 5, 2) := dAt bdL_law_2927 13 rfl
theorem dL_law_2953 : decode cL_law 2953 = .ok (.ifCond .ne 15, 3) := dAt bdL_law_2927 14 rfl
theorem dL_law_2968 : decode cL_law 2968 = .ok (.goto 523, 3) := dAt bdL_law_2927 15 rfl
theorem dL_law_2971 : decode cL_law 2971 = .ok (.aload_n 1, 1) := dAt bdL_law_2927 16 rfl
theorem dL_law_2972 : decode cL_law 2972 = .ok (.aload_n 0, 1) := dAt bdL_law_2927 17 rfl
theorem dL_law_2973 : decode cL_law 2973 = .ok (.iload 4, 2) := dAt bdL_law_2927 18 rfl
theorem dL_law_2975 : decode cL_law 2975 = .ok (.iconst 1, 1) := dAt bdL_law_2927 19 rfl
theorem dL_law_2976 : decode cL_law 2976 = .ok (.iadd, 1) := dAt bdL_law_2927 20 rfl
theorem dL_law_2977 : decode cL_law 2977 = .ok (.iaload, 1) := dAt bdL_law_2927 21 rfl
theorem dL_law_2978 : decode cL_law 2978 = .ok (.aload_n 0, 1) := dAt bdL_law_2927 22 rfl
theorem dL_law_2979 : decode cL_law 2979 = .ok (.iload 4, 2) := dAt bdL_law_2927 23 rfl
theorem dL_law_2981 : decode cL_law 2981 = .ok (.iconst 2, 1) := dAt bdL_law_2927 24 rfl
theorem dL_law_2982 : decode cL_law 2982 = .ok (.iadd, 1) := dAt bdL_law_2927 25 rfl
theorem dL_law_2983 : decode cL_law 2983 = .ok (.iaload, 1) := dAt bdL_law_2927 26 rfl
theorem dL_law_2984 : decode cL_law 2984 = .ok (.aload_n 3, 1) := dAt bdL_law_2927 27 rfl
theorem dL_law_2985 : decode cL_law 2985 = .ok (.invokestatic 362, 3) := dAt bdL_law_2927 28 rfl
theorem dL_law_2988 : decode cL_law 2988 = .ok (.istore 5, 2) := dAt bdL_law_2927 29 rfl
theorem dL_law_2990 : decode cL_law 2990 = .ok (.aload_n 2, 1) := dAt bdL_law_2927 30 rfl
theorem dL_law_2991 : decode cL_law 2991 = .ok (.aload_n 0, 1) := dAt bdL_law_2927 31 rfl
theorem dL_law_2992 : decode cL_law 2992 = .ok (.iload 4, 2) := dAt bdL_law_2927 32 rfl
theorem dL_law_2994 : decode cL_law 2994 = .ok (.iconst 1, 1) := dAt bdL_law_2927 33 rfl
theorem dL_law_2995 : decode cL_law 2995 = .ok (.iadd, 1) := dAt bdL_law_2927 34 rfl
theorem dL_law_2996 : decode cL_law 2996 = .ok (.iaload, 1) := dAt bdL_law_2927 35 rfl
theorem dL_law_2997 : decode cL_law 2997 = .ok (.aload_n 0, 1) := dAt bdL_law_2927 36 rfl
theorem dL_law_2998 : decode cL_law 2998 = .ok (.iload 4, 2) := dAt bdL_law_2927 37 rfl
theorem dL_law_3000 : decode cL_law 3000 = .ok (.iconst 2, 1) := dAt bdL_law_2927 38 rfl
theorem dL_law_3001 : decode cL_law 3001 = .ok (.iadd, 1) := dAt bdL_law_2927 39 rfl
theorem bdL_law_3002 : dAll cL_law [(3002, (.iaload, 1)), (3003, (.invokevirtual 364, 3)), (3006, (.istore 6, 2)), (3008, (.aload_n 2, 1)), (3009, (.invokevirtual 192, 3)), (3012, (.iload 5, 2)), (3014, (.if_icmp .eq 5, 3)), (3019, (.iload 5, 2)), (3021, (.ifCond .ne 15, 3)), (3036, (.goto 455, 3)), (3039, (.aload_n 1, 1)), (3040, (.aload_n 0, 1)), (3041, (.iload 4, 2)), (3043, (.iconst 1, 1)), (3044, (.iadd, 1)), (3045, (.iaload, 1)), (3046, (.aload_n 0, 1)), (3047, (.iload 4, 2)), (3049, (.iconst 2, 1)), (3050, (.iadd, 1)), (3051, (.iaload, 1)), (3052, (.aload_n 3, 1)), (3053, (.invokestatic 365, 3)), (3056, (.istore 5, 2)), (3058, (.aload_n 2, 1)), (3059, (.aload_n 0, 1)), (3060, (.iload 4, 2)), (3062, (.iconst 1, 1)), (3063, (.iadd, 1)), (3064, (.iaload, 1)), (3065, (.aload_n 0, 1)), (3066, (.iload 4, 2)), (3068, (.iconst 2, 1)), (3069, (.iadd, 1)), (3070, (.iaload, 1)), (3071, (.invokevirtual 367, 3)), (3074, (.istore 6, 2)), (3076, (.aload_n 2, 1)), (3077, (.invokevirtual 192, 3)), (3080, (.iload 5, 2))] = true := by decide +kernel
theorem dL_law_3002 : decode cL_law 3002 = .ok (.iaload, 1) := dAt bdL_law_3002 0 rfl
theorem dL_law_3003 : decode cL_law 3003 = .ok (.invokevirtual 364, 3) := dAt bdL_law_3002 1 rfl
theorem dL_law_3006 : decode cL_law 3006 = .ok (.istore 6, 2) := dAt bdL_law_3002 2 rfl
theorem dL_law_3008 : decode cL_law 3008 = .ok (.aload_n 2, 1) := dAt bdL_law_3002 3 rfl
theorem dL_law_3009 : decode cL_law 3009 = .ok (.invokevirtual 192, 3) := dAt bdL_law_3002 4 rfl
theorem dL_law_3012 : decode cL_law 3012 = .ok (.iload 5, 2) := dAt bdL_law_3002 5 rfl
theorem dL_law_3014 : decode cL_law 3014 = .ok (.if_icmp .eq 5, 3) := dAt bdL_law_3002 6 rfl
theorem dL_law_3019 : decode cL_law 3019 = .ok (.iload 5, 2) := dAt bdL_law_3002 7 rfl
theorem dL_law_3021 : decode cL_law 3021 = .ok (.ifCond .ne 15, 3) := dAt bdL_law_3002 8 rfl
theorem dL_law_3036 : decode cL_law 3036 = .ok (.goto 455, 3) := dAt bdL_law_3002 9 rfl
theorem dL_law_3039 : decode cL_law 3039 = .ok (.aload_n 1, 1) := dAt bdL_law_3002 10 rfl
theorem dL_law_3040 : decode cL_law 3040 = .ok (.aload_n 0, 1) := dAt bdL_law_3002 11 rfl
theorem dL_law_3041 : decode cL_law 3041 = .ok (.iload 4, 2) := dAt bdL_law_3002 12 rfl
theorem dL_law_3043 : decode cL_law 3043 = .ok (.iconst 1, 1) := dAt bdL_law_3002 13 rfl
theorem dL_law_3044 : decode cL_law 3044 = .ok (.iadd, 1) := dAt bdL_law_3002 14 rfl
theorem dL_law_3045 : decode cL_law 3045 = .ok (.iaload, 1) := dAt bdL_law_3002 15 rfl
theorem dL_law_3046 : decode cL_law 3046 = .ok (.aload_n 0, 1) := dAt bdL_law_3002 16 rfl
theorem dL_law_3047 : decode cL_law 3047 = .ok (.iload 4, 2) := dAt bdL_law_3002 17 rfl
theorem dL_law_3049 : decode cL_law 3049 = .ok (.iconst 2, 1) := dAt bdL_law_3002 18 rfl
theorem dL_law_3050 : decode cL_law 3050 = .ok (.iadd, 1) := dAt bdL_law_3002 19 rfl
theorem dL_law_3051 : decode cL_law 3051 = .ok (.iaload, 1) := dAt bdL_law_3002 20 rfl
theorem dL_law_3052 : decode cL_law 3052 = .ok (.aload_n 3, 1) := dAt bdL_law_3002 21 rfl
theorem dL_law_3053 : decode cL_law 3053 = .ok (.invokestatic 365, 3) := dAt bdL_law_3002 22 rfl
theorem dL_law_3056 : decode cL_law 3056 = .ok (.istore 5, 2) := dAt bdL_law_3002 23 rfl
theorem dL_law_3058 : decode cL_law 3058 = .ok (.aload_n 2, 1) := dAt bdL_law_3002 24 rfl
theorem dL_law_3059 : decode cL_law 3059 = .ok (.aload_n 0, 1) := dAt bdL_law_3002 25 rfl
theorem dL_law_3060 : decode cL_law 3060 = .ok (.iload 4, 2) := dAt bdL_law_3002 26 rfl
theorem dL_law_3062 : decode cL_law 3062 = .ok (.iconst 1, 1) := dAt bdL_law_3002 27 rfl
theorem dL_law_3063 : decode cL_law 3063 = .ok (.iadd, 1) := dAt bdL_law_3002 28 rfl
theorem dL_law_3064 : decode cL_law 3064 = .ok (.iaload, 1) := dAt bdL_law_3002 29 rfl
theorem dL_law_3065 : decode cL_law 3065 = .ok (.aload_n 0, 1) := dAt bdL_law_3002 30 rfl
theorem dL_law_3066 : decode cL_law 3066 = .ok (.iload 4, 2) := dAt bdL_law_3002 31 rfl
theorem dL_law_3068 : decode cL_law 3068 = .ok (.iconst 2, 1) := dAt bdL_law_3002 32 rfl
theorem dL_law_3069 : decode cL_law 3069 = .ok (.iadd, 1) := dAt bdL_law_3002 33 rfl
theorem dL_law_3070 : decode cL_law 3070 = .ok (.iaload, 1) := dAt bdL_law_3002 34 rfl
theorem dL_law_3071 : decode cL_law 3071 = .ok (.invokevirtual 367, 3) := dAt bdL_law_3002 35 rfl
theorem dL_law_3074 : decode cL_law 3074 = .ok (.istore 6, 2) := dAt bdL_law_3002 36 rfl
theorem dL_law_3076 : decode cL_law 3076 = .ok (.aload_n 2, 1) := dAt bdL_law_3002 37 rfl
theorem dL_law_3077 : decode cL_law 3077 = .ok (.invokevirtual 192, 3) := dAt bdL_law_3002 38 rfl
theorem dL_law_3080 : decode cL_law 3080 = .ok (.iload 5, 2) := dAt bdL_law_3002 39 rfl
theorem bdL_law_3082 : dAll cL_law [(3082, (.if_icmp .eq 5, 3)), (3087, (.iload 5, 2)), (3089, (.ifCond .ne 15, 3)), (3104, (.goto 387, 3)), (3107, (.aload_n 1, 1)), (3108, (.aload_n 0, 1)), (3109, (.iload 4, 2)), (3111, (.iconst 1, 1)), (3112, (.iadd, 1)), (3113, (.iaload, 1)), (3114, (.aload_n 0, 1)), (3115, (.iload 4, 2)), (3117, (.iconst 2, 1)), (3118, (.iadd, 1)), (3119, (.iaload, 1)), (3120, (.aload_n 0, 1)), (3121, (.iload 4, 2)), (3123, (.iconst 3, 1)), (3124, (.iadd, 1)), (3125, (.iaload, 1)), (3126, (.aload_n 3, 1)), (3127, (.invokestatic 368, 3)), (3130, (.istore 5, 2)), (3132, (.aload_n 2, 1)), (3133, (.aload_n 0, 1)), (3134, (.iload 4, 2)), (3136, (.iconst 1, 1)), (3137, (.iadd, 1)), (3138, (.iaload, 1)), (3139, (.aload_n 0, 1)), (3140, (.iload 4, 2)), (3142, (.iconst 2, 1)), (3143, (.iadd, 1)), (3144, (.iaload, 1)), (3145, (.aload_n 0, 1)), (3146, (.iload 4, 2)), (3148, (.iconst 3, 1)), (3149, (.iadd, 1)), (3150, (.iaload, 1)), (3151, (.invokevirtual 370, 3))] = true := by decide +kernel
theorem dL_law_3082 : decode cL_law 3082 = .ok (.if_icmp .eq 5, 3) := dAt bdL_law_3082 0 rfl
theorem dL_law_3087 : decode cL_law 3087 = .ok (.iload 5, 2) := dAt bdL_law_3082 1 rfl
theorem dL_law_3089 : decode cL_law 3089 = .ok (.ifCond .ne 15, 3) := dAt bdL_law_3082 2 rfl
theorem dL_law_3104 : decode cL_law 3104 = .ok (.goto 387, 3) := dAt bdL_law_3082 3 rfl
theorem dL_law_3107 : decode cL_law 3107 = .ok (.aload_n 1, 1) := dAt bdL_law_3082 4 rfl
theorem dL_law_3108 : decode cL_law 3108 = .ok (.aload_n 0, 1) := dAt bdL_law_3082 5 rfl
theorem dL_law_3109 : decode cL_law 3109 = .ok (.iload 4, 2) := dAt bdL_law_3082 6 rfl
theorem dL_law_3111 : decode cL_law 3111 = .ok (.iconst 1, 1) := dAt bdL_law_3082 7 rfl
theorem dL_law_3112 : decode cL_law 3112 = .ok (.iadd, 1) := dAt bdL_law_3082 8 rfl
theorem dL_law_3113 : decode cL_law 3113 = .ok (.iaload, 1) := dAt bdL_law_3082 9 rfl
theorem dL_law_3114 : decode cL_law 3114 = .ok (.aload_n 0, 1) := dAt bdL_law_3082 10 rfl
theorem dL_law_3115 : decode cL_law 3115 = .ok (.iload 4, 2) := dAt bdL_law_3082 11 rfl
theorem dL_law_3117 : decode cL_law 3117 = .ok (.iconst 2, 1) := dAt bdL_law_3082 12 rfl
theorem dL_law_3118 : decode cL_law 3118 = .ok (.iadd, 1) := dAt bdL_law_3082 13 rfl
theorem dL_law_3119 : decode cL_law 3119 = .ok (.iaload, 1) := dAt bdL_law_3082 14 rfl
theorem dL_law_3120 : decode cL_law 3120 = .ok (.aload_n 0, 1) := dAt bdL_law_3082 15 rfl
theorem dL_law_3121 : decode cL_law 3121 = .ok (.iload 4, 2) := dAt bdL_law_3082 16 rfl
theorem dL_law_3123 : decode cL_law 3123 = .ok (.iconst 3, 1) := dAt bdL_law_3082 17 rfl
theorem dL_law_3124 : decode cL_law 3124 = .ok (.iadd, 1) := dAt bdL_law_3082 18 rfl
theorem dL_law_3125 : decode cL_law 3125 = .ok (.iaload, 1) := dAt bdL_law_3082 19 rfl
theorem dL_law_3126 : decode cL_law 3126 = .ok (.aload_n 3, 1) := dAt bdL_law_3082 20 rfl
theorem dL_law_3127 : decode cL_law 3127 = .ok (.invokestatic 368, 3) := dAt bdL_law_3082 21 rfl
theorem dL_law_3130 : decode cL_law 3130 = .ok (.istore 5, 2) := dAt bdL_law_3082 22 rfl
theorem dL_law_3132 : decode cL_law 3132 = .ok (.aload_n 2, 1) := dAt bdL_law_3082 23 rfl
theorem dL_law_3133 : decode cL_law 3133 = .ok (.aload_n 0, 1) := dAt bdL_law_3082 24 rfl
theorem dL_law_3134 : decode cL_law 3134 = .ok (.iload 4, 2) := dAt bdL_law_3082 25 rfl
theorem dL_law_3136 : decode cL_law 3136 = .ok (.iconst 1, 1) := dAt bdL_law_3082 26 rfl
theorem dL_law_3137 : decode cL_law 3137 = .ok (.iadd, 1) := dAt bdL_law_3082 27 rfl
theorem dL_law_3138 : decode cL_law 3138 = .ok (.iaload, 1) := dAt bdL_law_3082 28 rfl
theorem dL_law_3139 : decode cL_law 3139 = .ok (.aload_n 0, 1) := dAt bdL_law_3082 29 rfl
theorem dL_law_3140 : decode cL_law 3140 = .ok (.iload 4, 2) := dAt bdL_law_3082 30 rfl
theorem dL_law_3142 : decode cL_law 3142 = .ok (.iconst 2, 1) := dAt bdL_law_3082 31 rfl
theorem dL_law_3143 : decode cL_law 3143 = .ok (.iadd, 1) := dAt bdL_law_3082 32 rfl
theorem dL_law_3144 : decode cL_law 3144 = .ok (.iaload, 1) := dAt bdL_law_3082 33 rfl
theorem dL_law_3145 : decode cL_law 3145 = .ok (.aload_n 0, 1) := dAt bdL_law_3082 34 rfl
theorem dL_law_3146 : decode cL_law 3146 = .ok (.iload 4, 2) := dAt bdL_law_3082 35 rfl
theorem dL_law_3148 : decode cL_law 3148 = .ok (.iconst 3, 1) := dAt bdL_law_3082 36 rfl
theorem dL_law_3149 : decode cL_law 3149 = .ok (.iadd, 1) := dAt bdL_law_3082 37 rfl
theorem dL_law_3150 : decode cL_law 3150 = .ok (.iaload, 1) := dAt bdL_law_3082 38 rfl
theorem dL_law_3151 : decode cL_law 3151 = .ok (.invokevirtual 370, 3) := dAt bdL_law_3082 39 rfl
theorem bdL_law_3154 : dAll cL_law [(3154, (.istore 6, 2)), (3156, (.aload_n 2, 1)), (3157, (.invokevirtual 192, 3)), (3160, (.iload 5, 2)), (3162, (.if_icmp .eq 5, 3)), (3167, (.iload 5, 2)), (3169, (.ifCond .ne 15, 3)), (3184, (.goto 307, 3)), (3187, (.aload_n 1, 1)), (3188, (.aload_n 0, 1)), (3189, (.iload 4, 2)), (3191, (.iconst 1, 1)), (3192, (.iadd, 1)), (3193, (.iaload, 1)), (3194, (.aload_n 0, 1)), (3195, (.iload 4, 2)), (3197, (.iconst 2, 1)), (3198, (.iadd, 1)), (3199, (.iaload, 1)), (3200, (.aload_n 0, 1)), (3201, (.iload 4, 2)), (3203, (.iconst 3, 1)), (3204, (.iadd, 1)), (3205, (.iaload, 1)), (3206, (.ifCond .eq 7, 3)), (3209, (.iconst 1, 1)), (3210, (.goto 4, 3)), (3213, (.iconst 0, 1)), (3214, (.aload_n 0, 1)), (3215, (.iload 4, 2)), (3217, (.iconst 4, 1)), (3218, (.iadd, 1)), (3219, (.iaload, 1)), (3220, (.aload_n 3, 1)), (3221, (.invokestatic 371, 3)), (3224, (.istore 5, 2)), (3226, (.aload_n 2, 1)), (3227, (.aload_n 0, 1)), (3228, (.iload 4, 2)), (3230, (.iconst 1, 1))] = true := by decide +kernel
theorem dL_law_3154 : decode cL_law 3154 = .ok (.istore 6, 2) := dAt bdL_law_3154 0 rfl
theorem dL_law_3156 : decode cL_law 3156 = .ok (.aload_n 2, 1) := dAt bdL_law_3154 1 rfl
theorem dL_law_3157 : decode cL_law 3157 = .ok (.invokevirtual 192, 3) := dAt bdL_law_3154 2 rfl
theorem dL_law_3160 : decode cL_law 3160 = .ok (.iload 5, 2) := dAt bdL_law_3154 3 rfl
theorem dL_law_3162 : decode cL_law 3162 = .ok (.if_icmp .eq 5, 3) := dAt bdL_law_3154 4 rfl
theorem dL_law_3167 : decode cL_law 3167 = .ok (.iload 5, 2) := dAt bdL_law_3154 5 rfl
theorem dL_law_3169 : decode cL_law 3169 = .ok (.ifCond .ne 15, 3) := dAt bdL_law_3154 6 rfl
theorem dL_law_3184 : decode cL_law 3184 = .ok (.goto 307, 3) := dAt bdL_law_3154 7 rfl
theorem dL_law_3187 : decode cL_law 3187 = .ok (.aload_n 1, 1) := dAt bdL_law_3154 8 rfl
theorem dL_law_3188 : decode cL_law 3188 = .ok (.aload_n 0, 1) := dAt bdL_law_3154 9 rfl
theorem dL_law_3189 : decode cL_law 3189 = .ok (.iload 4, 2) := dAt bdL_law_3154 10 rfl
theorem dL_law_3191 : decode cL_law 3191 = .ok (.iconst 1, 1) := dAt bdL_law_3154 11 rfl
theorem dL_law_3192 : decode cL_law 3192 = .ok (.iadd, 1) := dAt bdL_law_3154 12 rfl
theorem dL_law_3193 : decode cL_law 3193 = .ok (.iaload, 1) := dAt bdL_law_3154 13 rfl
theorem dL_law_3194 : decode cL_law 3194 = .ok (.aload_n 0, 1) := dAt bdL_law_3154 14 rfl
theorem dL_law_3195 : decode cL_law 3195 = .ok (.iload 4, 2) := dAt bdL_law_3154 15 rfl
theorem dL_law_3197 : decode cL_law 3197 = .ok (.iconst 2, 1) := dAt bdL_law_3154 16 rfl
theorem dL_law_3198 : decode cL_law 3198 = .ok (.iadd, 1) := dAt bdL_law_3154 17 rfl
theorem dL_law_3199 : decode cL_law 3199 = .ok (.iaload, 1) := dAt bdL_law_3154 18 rfl
theorem dL_law_3200 : decode cL_law 3200 = .ok (.aload_n 0, 1) := dAt bdL_law_3154 19 rfl
theorem dL_law_3201 : decode cL_law 3201 = .ok (.iload 4, 2) := dAt bdL_law_3154 20 rfl
theorem dL_law_3203 : decode cL_law 3203 = .ok (.iconst 3, 1) := dAt bdL_law_3154 21 rfl
theorem dL_law_3204 : decode cL_law 3204 = .ok (.iadd, 1) := dAt bdL_law_3154 22 rfl
theorem dL_law_3205 : decode cL_law 3205 = .ok (.iaload, 1) := dAt bdL_law_3154 23 rfl
theorem dL_law_3206 : decode cL_law 3206 = .ok (.ifCond .eq 7, 3) := dAt bdL_law_3154 24 rfl
theorem dL_law_3209 : decode cL_law 3209 = .ok (.iconst 1, 1) := dAt bdL_law_3154 25 rfl
theorem dL_law_3210 : decode cL_law 3210 = .ok (.goto 4, 3) := dAt bdL_law_3154 26 rfl
theorem dL_law_3213 : decode cL_law 3213 = .ok (.iconst 0, 1) := dAt bdL_law_3154 27 rfl
theorem dL_law_3214 : decode cL_law 3214 = .ok (.aload_n 0, 1) := dAt bdL_law_3154 28 rfl
theorem dL_law_3215 : decode cL_law 3215 = .ok (.iload 4, 2) := dAt bdL_law_3154 29 rfl
theorem dL_law_3217 : decode cL_law 3217 = .ok (.iconst 4, 1) := dAt bdL_law_3154 30 rfl
theorem dL_law_3218 : decode cL_law 3218 = .ok (.iadd, 1) := dAt bdL_law_3154 31 rfl
theorem dL_law_3219 : decode cL_law 3219 = .ok (.iaload, 1) := dAt bdL_law_3154 32 rfl
theorem dL_law_3220 : decode cL_law 3220 = .ok (.aload_n 3, 1) := dAt bdL_law_3154 33 rfl
theorem dL_law_3221 : decode cL_law 3221 = .ok (.invokestatic 371, 3) := dAt bdL_law_3154 34 rfl
theorem dL_law_3224 : decode cL_law 3224 = .ok (.istore 5, 2) := dAt bdL_law_3154 35 rfl
theorem dL_law_3226 : decode cL_law 3226 = .ok (.aload_n 2, 1) := dAt bdL_law_3154 36 rfl
theorem dL_law_3227 : decode cL_law 3227 = .ok (.aload_n 0, 1) := dAt bdL_law_3154 37 rfl
theorem dL_law_3228 : decode cL_law 3228 = .ok (.iload 4, 2) := dAt bdL_law_3154 38 rfl
theorem dL_law_3230 : decode cL_law 3230 = .ok (.iconst 1, 1) := dAt bdL_law_3154 39 rfl
theorem bdL_law_3231 : dAll cL_law [(3231, (.iadd, 1)), (3232, (.iaload, 1)), (3233, (.aload_n 0, 1)), (3234, (.iload 4, 2)), (3236, (.iconst 2, 1)), (3237, (.iadd, 1)), (3238, (.iaload, 1)), (3239, (.aload_n 0, 1)), (3240, (.iload 4, 2)), (3242, (.iconst 3, 1)), (3243, (.iadd, 1)), (3244, (.iaload, 1)), (3245, (.ifCond .eq 7, 3)), (3248, (.iconst 1, 1)), (3249, (.goto 4, 3)), (3252, (.iconst 0, 1)), (3253, (.aload_n 0, 1)), (3254, (.iload 4, 2)), (3256, (.iconst 4, 1)), (3257, (.iadd, 1)), (3258, (.iaload, 1)), (3259, (.invokevirtual 374, 3)), (3262, (.istore 6, 2)), (3264, (.aload_n 2, 1)), (3265, (.invokevirtual 192, 3)), (3268, (.iload 5, 2)), (3270, (.if_icmp .eq 5, 3)), (3275, (.iload 5, 2)), (3277, (.ifCond .ne 15, 3)), (3292, (.goto 199, 3)), (3295, (.aload_n 1, 1)), (3296, (.aload_n 0, 1)), (3297, (.iload 4, 2)), (3299, (.iconst 1, 1)), (3300, (.iadd, 1)), (3301, (.iaload, 1)), (3302, (.aload_n 0, 1)), (3303, (.iload 4, 2)), (3305, (.iconst 2, 1)), (3306, (.iadd, 1))] = true := by decide +kernel
theorem dL_law_3231 : decode cL_law 3231 = .ok (.iadd, 1) := dAt bdL_law_3231 0 rfl
theorem dL_law_3232 : decode cL_law 3232 = .ok (.iaload, 1) := dAt bdL_law_3231 1 rfl
theorem dL_law_3233 : decode cL_law 3233 = .ok (.aload_n 0, 1) := dAt bdL_law_3231 2 rfl
theorem dL_law_3234 : decode cL_law 3234 = .ok (.iload 4, 2) := dAt bdL_law_3231 3 rfl
theorem dL_law_3236 : decode cL_law 3236 = .ok (.iconst 2, 1) := dAt bdL_law_3231 4 rfl
theorem dL_law_3237 : decode cL_law 3237 = .ok (.iadd, 1) := dAt bdL_law_3231 5 rfl
theorem dL_law_3238 : decode cL_law 3238 = .ok (.iaload, 1) := dAt bdL_law_3231 6 rfl
theorem dL_law_3239 : decode cL_law 3239 = .ok (.aload_n 0, 1) := dAt bdL_law_3231 7 rfl
theorem dL_law_3240 : decode cL_law 3240 = .ok (.iload 4, 2) := dAt bdL_law_3231 8 rfl
theorem dL_law_3242 : decode cL_law 3242 = .ok (.iconst 3, 1) := dAt bdL_law_3231 9 rfl
theorem dL_law_3243 : decode cL_law 3243 = .ok (.iadd, 1) := dAt bdL_law_3231 10 rfl
theorem dL_law_3244 : decode cL_law 3244 = .ok (.iaload, 1) := dAt bdL_law_3231 11 rfl
theorem dL_law_3245 : decode cL_law 3245 = .ok (.ifCond .eq 7, 3) := dAt bdL_law_3231 12 rfl
theorem dL_law_3248 : decode cL_law 3248 = .ok (.iconst 1, 1) := dAt bdL_law_3231 13 rfl
theorem dL_law_3249 : decode cL_law 3249 = .ok (.goto 4, 3) := dAt bdL_law_3231 14 rfl
theorem dL_law_3252 : decode cL_law 3252 = .ok (.iconst 0, 1) := dAt bdL_law_3231 15 rfl
theorem dL_law_3253 : decode cL_law 3253 = .ok (.aload_n 0, 1) := dAt bdL_law_3231 16 rfl
theorem dL_law_3254 : decode cL_law 3254 = .ok (.iload 4, 2) := dAt bdL_law_3231 17 rfl
theorem dL_law_3256 : decode cL_law 3256 = .ok (.iconst 4, 1) := dAt bdL_law_3231 18 rfl
theorem dL_law_3257 : decode cL_law 3257 = .ok (.iadd, 1) := dAt bdL_law_3231 19 rfl
theorem dL_law_3258 : decode cL_law 3258 = .ok (.iaload, 1) := dAt bdL_law_3231 20 rfl
theorem dL_law_3259 : decode cL_law 3259 = .ok (.invokevirtual 374, 3) := dAt bdL_law_3231 21 rfl
theorem dL_law_3262 : decode cL_law 3262 = .ok (.istore 6, 2) := dAt bdL_law_3231 22 rfl
theorem dL_law_3264 : decode cL_law 3264 = .ok (.aload_n 2, 1) := dAt bdL_law_3231 23 rfl
theorem dL_law_3265 : decode cL_law 3265 = .ok (.invokevirtual 192, 3) := dAt bdL_law_3231 24 rfl
theorem dL_law_3268 : decode cL_law 3268 = .ok (.iload 5, 2) := dAt bdL_law_3231 25 rfl
theorem dL_law_3270 : decode cL_law 3270 = .ok (.if_icmp .eq 5, 3) := dAt bdL_law_3231 26 rfl
theorem dL_law_3275 : decode cL_law 3275 = .ok (.iload 5, 2) := dAt bdL_law_3231 27 rfl
theorem dL_law_3277 : decode cL_law 3277 = .ok (.ifCond .ne 15, 3) := dAt bdL_law_3231 28 rfl
theorem dL_law_3292 : decode cL_law 3292 = .ok (.goto 199, 3) := dAt bdL_law_3231 29 rfl
theorem dL_law_3295 : decode cL_law 3295 = .ok (.aload_n 1, 1) := dAt bdL_law_3231 30 rfl
theorem dL_law_3296 : decode cL_law 3296 = .ok (.aload_n 0, 1) := dAt bdL_law_3231 31 rfl
theorem dL_law_3297 : decode cL_law 3297 = .ok (.iload 4, 2) := dAt bdL_law_3231 32 rfl
theorem dL_law_3299 : decode cL_law 3299 = .ok (.iconst 1, 1) := dAt bdL_law_3231 33 rfl
theorem dL_law_3300 : decode cL_law 3300 = .ok (.iadd, 1) := dAt bdL_law_3231 34 rfl
theorem dL_law_3301 : decode cL_law 3301 = .ok (.iaload, 1) := dAt bdL_law_3231 35 rfl
theorem dL_law_3302 : decode cL_law 3302 = .ok (.aload_n 0, 1) := dAt bdL_law_3231 36 rfl
theorem dL_law_3303 : decode cL_law 3303 = .ok (.iload 4, 2) := dAt bdL_law_3231 37 rfl
theorem dL_law_3305 : decode cL_law 3305 = .ok (.iconst 2, 1) := dAt bdL_law_3231 38 rfl
theorem dL_law_3306 : decode cL_law 3306 = .ok (.iadd, 1) := dAt bdL_law_3231 39 rfl
theorem bdL_law_3307 : dAll cL_law [(3307, (.iaload, 1)), (3308, (.aload_n 0, 1)), (3309, (.iload 4, 2)), (3311, (.iconst 3, 1)), (3312, (.iadd, 1)), (3313, (.iaload, 1)), (3314, (.aload_n 0, 1)), (3315, (.iload 4, 2)), (3317, (.iconst 4, 1)), (3318, (.iadd, 1)), (3319, (.iaload, 1)), (3320, (.aload_n 3, 1)), (3321, (.invokestatic 375, 3)), (3324, (.istore 5, 2)), (3326, (.aload_n 2, 1)), (3327, (.aload_n 0, 1)), (3328, (.iload 4, 2)), (3330, (.iconst 1, 1)), (3331, (.iadd, 1)), (3332, (.iaload, 1)), (3333, (.aload_n 0, 1)), (3334, (.iload 4, 2)), (3336, (.iconst 2, 1)), (3337, (.iadd, 1)), (3338, (.iaload, 1)), (3339, (.aload_n 0, 1)), (3340, (.iload 4, 2)), (3342, (.iconst 3, 1)), (3343, (.iadd, 1)), (3344, (.iaload, 1)), (3345, (.aload_n 0, 1)), (3346, (.iload 4, 2)), (3348, (.iconst 4, 1)), (3349, (.iadd, 1)), (3350, (.iaload, 1)), (3351, (.invokevirtual 377, 3)), (3354, (.istore 6, 2)), (3356, (.aload_n 2, 1)), (3357, (.invokevirtual 192, 3)), (3360, (.iload 5, 2))] = true := by decide +kernel
theorem dL_law_3307 : decode cL_law 3307 = .ok (.iaload, 1) := dAt bdL_law_3307 0 rfl
theorem dL_law_3308 : decode cL_law 3308 = .ok (.aload_n 0, 1) := dAt bdL_law_3307 1 rfl
theorem dL_law_3309 : decode cL_law 3309 = .ok (.iload 4, 2) := dAt bdL_law_3307 2 rfl
theorem dL_law_3311 : decode cL_law 3311 = .ok (.iconst 3, 1) := dAt bdL_law_3307 3 rfl
theorem dL_law_3312 : decode cL_law 3312 = .ok (.iadd, 1) := dAt bdL_law_3307 4 rfl
theorem dL_law_3313 : decode cL_law 3313 = .ok (.iaload, 1) := dAt bdL_law_3307 5 rfl
theorem dL_law_3314 : decode cL_law 3314 = .ok (.aload_n 0, 1) := dAt bdL_law_3307 6 rfl
theorem dL_law_3315 : decode cL_law 3315 = .ok (.iload 4, 2) := dAt bdL_law_3307 7 rfl
theorem dL_law_3317 : decode cL_law 3317 = .ok (.iconst 4, 1) := dAt bdL_law_3307 8 rfl
theorem dL_law_3318 : decode cL_law 3318 = .ok (.iadd, 1) := dAt bdL_law_3307 9 rfl
theorem dL_law_3319 : decode cL_law 3319 = .ok (.iaload, 1) := dAt bdL_law_3307 10 rfl
theorem dL_law_3320 : decode cL_law 3320 = .ok (.aload_n 3, 1) := dAt bdL_law_3307 11 rfl
theorem dL_law_3321 : decode cL_law 3321 = .ok (.invokestatic 375, 3) := dAt bdL_law_3307 12 rfl
theorem dL_law_3324 : decode cL_law 3324 = .ok (.istore 5, 2) := dAt bdL_law_3307 13 rfl
theorem dL_law_3326 : decode cL_law 3326 = .ok (.aload_n 2, 1) := dAt bdL_law_3307 14 rfl
theorem dL_law_3327 : decode cL_law 3327 = .ok (.aload_n 0, 1) := dAt bdL_law_3307 15 rfl
theorem dL_law_3328 : decode cL_law 3328 = .ok (.iload 4, 2) := dAt bdL_law_3307 16 rfl
theorem dL_law_3330 : decode cL_law 3330 = .ok (.iconst 1, 1) := dAt bdL_law_3307 17 rfl
theorem dL_law_3331 : decode cL_law 3331 = .ok (.iadd, 1) := dAt bdL_law_3307 18 rfl
theorem dL_law_3332 : decode cL_law 3332 = .ok (.iaload, 1) := dAt bdL_law_3307 19 rfl
theorem dL_law_3333 : decode cL_law 3333 = .ok (.aload_n 0, 1) := dAt bdL_law_3307 20 rfl
theorem dL_law_3334 : decode cL_law 3334 = .ok (.iload 4, 2) := dAt bdL_law_3307 21 rfl
theorem dL_law_3336 : decode cL_law 3336 = .ok (.iconst 2, 1) := dAt bdL_law_3307 22 rfl
theorem dL_law_3337 : decode cL_law 3337 = .ok (.iadd, 1) := dAt bdL_law_3307 23 rfl
theorem dL_law_3338 : decode cL_law 3338 = .ok (.iaload, 1) := dAt bdL_law_3307 24 rfl
theorem dL_law_3339 : decode cL_law 3339 = .ok (.aload_n 0, 1) := dAt bdL_law_3307 25 rfl
theorem dL_law_3340 : decode cL_law 3340 = .ok (.iload 4, 2) := dAt bdL_law_3307 26 rfl
theorem dL_law_3342 : decode cL_law 3342 = .ok (.iconst 3, 1) := dAt bdL_law_3307 27 rfl
theorem dL_law_3343 : decode cL_law 3343 = .ok (.iadd, 1) := dAt bdL_law_3307 28 rfl
theorem dL_law_3344 : decode cL_law 3344 = .ok (.iaload, 1) := dAt bdL_law_3307 29 rfl
theorem dL_law_3345 : decode cL_law 3345 = .ok (.aload_n 0, 1) := dAt bdL_law_3307 30 rfl
theorem dL_law_3346 : decode cL_law 3346 = .ok (.iload 4, 2) := dAt bdL_law_3307 31 rfl
theorem dL_law_3348 : decode cL_law 3348 = .ok (.iconst 4, 1) := dAt bdL_law_3307 32 rfl
theorem dL_law_3349 : decode cL_law 3349 = .ok (.iadd, 1) := dAt bdL_law_3307 33 rfl
theorem dL_law_3350 : decode cL_law 3350 = .ok (.iaload, 1) := dAt bdL_law_3307 34 rfl
theorem dL_law_3351 : decode cL_law 3351 = .ok (.invokevirtual 377, 3) := dAt bdL_law_3307 35 rfl
theorem dL_law_3354 : decode cL_law 3354 = .ok (.istore 6, 2) := dAt bdL_law_3307 36 rfl
theorem dL_law_3356 : decode cL_law 3356 = .ok (.aload_n 2, 1) := dAt bdL_law_3307 37 rfl
theorem dL_law_3357 : decode cL_law 3357 = .ok (.invokevirtual 192, 3) := dAt bdL_law_3307 38 rfl
theorem dL_law_3360 : decode cL_law 3360 = .ok (.iload 5, 2) := dAt bdL_law_3307 39 rfl
theorem bdL_law_3362 : dAll cL_law [(3362, (.if_icmp .eq 5, 3)), (3367, (.iload 5, 2)), (3369, (.ifCond .ne 15, 3)), (3384, (.goto 107, 3)), (3387, (.aload_n 1, 1)), (3388, (.aload_n 0, 1)), (3389, (.iload 4, 2)), (3391, (.iconst 1, 1)), (3392, (.iadd, 1)), (3393, (.iaload, 1)), (3394, (.aload_n 0, 1)), (3395, (.iload 4, 2)), (3397, (.iconst 2, 1)), (3398, (.iadd, 1)), (3399, (.iaload, 1)), (3400, (.aload_n 0, 1)), (3401, (.iload 4, 2)), (3403, (.iconst 3, 1)), (3404, (.iadd, 1)), (3405, (.iaload, 1)), (3406, (.aload_n 0, 1)), (3407, (.iload 4, 2)), (3409, (.iconst 4, 1)), (3410, (.iadd, 1)), (3411, (.iaload, 1)), (3412, (.aload_n 0, 1)), (3413, (.iload 4, 2)), (3415, (.iconst 5, 1)), (3416, (.iadd, 1)), (3417, (.iaload, 1)), (3418, (.aload_n 3, 1)), (3419, (.invokestatic 378, 3)), (3422, (.istore 5, 2)), (3424, (.aload_n 2, 1)), (3425, (.aload_n 0, 1)), (3426, (.iload 4, 2)), (3428, (.iconst 1, 1)), (3429, (.iadd, 1)), (3430, (.iaload, 1)), (3431, (.aload_n 0, 1))] = true := by decide +kernel
theorem dL_law_3362 : decode cL_law 3362 = .ok (.if_icmp .eq 5, 3) := dAt bdL_law_3362 0 rfl
theorem dL_law_3367 : decode cL_law 3367 = .ok (.iload 5, 2) := dAt bdL_law_3362 1 rfl
theorem dL_law_3369 : decode cL_law 3369 = .ok (.ifCond .ne 15, 3) := dAt bdL_law_3362 2 rfl
theorem dL_law_3384 : decode cL_law 3384 = .ok (.goto 107, 3) := dAt bdL_law_3362 3 rfl
theorem dL_law_3387 : decode cL_law 3387 = .ok (.aload_n 1, 1) := dAt bdL_law_3362 4 rfl
theorem dL_law_3388 : decode cL_law 3388 = .ok (.aload_n 0, 1) := dAt bdL_law_3362 5 rfl
theorem dL_law_3389 : decode cL_law 3389 = .ok (.iload 4, 2) := dAt bdL_law_3362 6 rfl
theorem dL_law_3391 : decode cL_law 3391 = .ok (.iconst 1, 1) := dAt bdL_law_3362 7 rfl
theorem dL_law_3392 : decode cL_law 3392 = .ok (.iadd, 1) := dAt bdL_law_3362 8 rfl
theorem dL_law_3393 : decode cL_law 3393 = .ok (.iaload, 1) := dAt bdL_law_3362 9 rfl
theorem dL_law_3394 : decode cL_law 3394 = .ok (.aload_n 0, 1) := dAt bdL_law_3362 10 rfl
theorem dL_law_3395 : decode cL_law 3395 = .ok (.iload 4, 2) := dAt bdL_law_3362 11 rfl
theorem dL_law_3397 : decode cL_law 3397 = .ok (.iconst 2, 1) := dAt bdL_law_3362 12 rfl
theorem dL_law_3398 : decode cL_law 3398 = .ok (.iadd, 1) := dAt bdL_law_3362 13 rfl
theorem dL_law_3399 : decode cL_law 3399 = .ok (.iaload, 1) := dAt bdL_law_3362 14 rfl
theorem dL_law_3400 : decode cL_law 3400 = .ok (.aload_n 0, 1) := dAt bdL_law_3362 15 rfl
theorem dL_law_3401 : decode cL_law 3401 = .ok (.iload 4, 2) := dAt bdL_law_3362 16 rfl
theorem dL_law_3403 : decode cL_law 3403 = .ok (.iconst 3, 1) := dAt bdL_law_3362 17 rfl
theorem dL_law_3404 : decode cL_law 3404 = .ok (.iadd, 1) := dAt bdL_law_3362 18 rfl
theorem dL_law_3405 : decode cL_law 3405 = .ok (.iaload, 1) := dAt bdL_law_3362 19 rfl
theorem dL_law_3406 : decode cL_law 3406 = .ok (.aload_n 0, 1) := dAt bdL_law_3362 20 rfl
theorem dL_law_3407 : decode cL_law 3407 = .ok (.iload 4, 2) := dAt bdL_law_3362 21 rfl
theorem dL_law_3409 : decode cL_law 3409 = .ok (.iconst 4, 1) := dAt bdL_law_3362 22 rfl
theorem dL_law_3410 : decode cL_law 3410 = .ok (.iadd, 1) := dAt bdL_law_3362 23 rfl
theorem dL_law_3411 : decode cL_law 3411 = .ok (.iaload, 1) := dAt bdL_law_3362 24 rfl
theorem dL_law_3412 : decode cL_law 3412 = .ok (.aload_n 0, 1) := dAt bdL_law_3362 25 rfl
theorem dL_law_3413 : decode cL_law 3413 = .ok (.iload 4, 2) := dAt bdL_law_3362 26 rfl
theorem dL_law_3415 : decode cL_law 3415 = .ok (.iconst 5, 1) := dAt bdL_law_3362 27 rfl
theorem dL_law_3416 : decode cL_law 3416 = .ok (.iadd, 1) := dAt bdL_law_3362 28 rfl
theorem dL_law_3417 : decode cL_law 3417 = .ok (.iaload, 1) := dAt bdL_law_3362 29 rfl
theorem dL_law_3418 : decode cL_law 3418 = .ok (.aload_n 3, 1) := dAt bdL_law_3362 30 rfl
theorem dL_law_3419 : decode cL_law 3419 = .ok (.invokestatic 378, 3) := dAt bdL_law_3362 31 rfl
theorem dL_law_3422 : decode cL_law 3422 = .ok (.istore 5, 2) := dAt bdL_law_3362 32 rfl
theorem dL_law_3424 : decode cL_law 3424 = .ok (.aload_n 2, 1) := dAt bdL_law_3362 33 rfl
theorem dL_law_3425 : decode cL_law 3425 = .ok (.aload_n 0, 1) := dAt bdL_law_3362 34 rfl
theorem dL_law_3426 : decode cL_law 3426 = .ok (.iload 4, 2) := dAt bdL_law_3362 35 rfl
theorem dL_law_3428 : decode cL_law 3428 = .ok (.iconst 1, 1) := dAt bdL_law_3362 36 rfl
theorem dL_law_3429 : decode cL_law 3429 = .ok (.iadd, 1) := dAt bdL_law_3362 37 rfl
theorem dL_law_3430 : decode cL_law 3430 = .ok (.iaload, 1) := dAt bdL_law_3362 38 rfl
theorem dL_law_3431 : decode cL_law 3431 = .ok (.aload_n 0, 1) := dAt bdL_law_3362 39 rfl
theorem bdL_law_3432 : dAll cL_law [(3432, (.iload 4, 2)), (3434, (.iconst 2, 1)), (3435, (.iadd, 1)), (3436, (.iaload, 1)), (3437, (.aload_n 0, 1)), (3438, (.iload 4, 2)), (3440, (.iconst 3, 1)), (3441, (.iadd, 1)), (3442, (.iaload, 1)), (3443, (.aload_n 0, 1)), (3444, (.iload 4, 2)), (3446, (.iconst 4, 1)), (3447, (.iadd, 1)), (3448, (.iaload, 1)), (3449, (.aload_n 0, 1)), (3450, (.iload 4, 2)), (3452, (.iconst 5, 1)), (3453, (.iadd, 1)), (3454, (.iaload, 1)), (3455, (.invokevirtual 381, 3)), (3458, (.istore 6, 2)), (3460, (.aload_n 2, 1)), (3461, (.invokevirtual 192, 3)), (3464, (.iload 5, 2)), (3466, (.if_icmp .eq 5, 3)), (3471, (.iload 5, 2)), (3473, (.ifCond .ne 15, 3)), (3488, (.goto 3, 3)), (3491, (.iinc 4 6, 3)), (3494, (.goto (-3471), 3)), (3497, (.iconst 1, 1)), (3498, (.ireturn, 1))] = true := by decide +kernel
theorem dL_law_3432 : decode cL_law 3432 = .ok (.iload 4, 2) := dAt bdL_law_3432 0 rfl
theorem dL_law_3434 : decode cL_law 3434 = .ok (.iconst 2, 1) := dAt bdL_law_3432 1 rfl
theorem dL_law_3435 : decode cL_law 3435 = .ok (.iadd, 1) := dAt bdL_law_3432 2 rfl
theorem dL_law_3436 : decode cL_law 3436 = .ok (.iaload, 1) := dAt bdL_law_3432 3 rfl
theorem dL_law_3437 : decode cL_law 3437 = .ok (.aload_n 0, 1) := dAt bdL_law_3432 4 rfl
theorem dL_law_3438 : decode cL_law 3438 = .ok (.iload 4, 2) := dAt bdL_law_3432 5 rfl
theorem dL_law_3440 : decode cL_law 3440 = .ok (.iconst 3, 1) := dAt bdL_law_3432 6 rfl
theorem dL_law_3441 : decode cL_law 3441 = .ok (.iadd, 1) := dAt bdL_law_3432 7 rfl
theorem dL_law_3442 : decode cL_law 3442 = .ok (.iaload, 1) := dAt bdL_law_3432 8 rfl
theorem dL_law_3443 : decode cL_law 3443 = .ok (.aload_n 0, 1) := dAt bdL_law_3432 9 rfl
theorem dL_law_3444 : decode cL_law 3444 = .ok (.iload 4, 2) := dAt bdL_law_3432 10 rfl
theorem dL_law_3446 : decode cL_law 3446 = .ok (.iconst 4, 1) := dAt bdL_law_3432 11 rfl
theorem dL_law_3447 : decode cL_law 3447 = .ok (.iadd, 1) := dAt bdL_law_3432 12 rfl
theorem dL_law_3448 : decode cL_law 3448 = .ok (.iaload, 1) := dAt bdL_law_3432 13 rfl
theorem dL_law_3449 : decode cL_law 3449 = .ok (.aload_n 0, 1) := dAt bdL_law_3432 14 rfl
theorem dL_law_3450 : decode cL_law 3450 = .ok (.iload 4, 2) := dAt bdL_law_3432 15 rfl
theorem dL_law_3452 : decode cL_law 3452 = .ok (.iconst 5, 1) := dAt bdL_law_3432 16 rfl
theorem dL_law_3453 : decode cL_law 3453 = .ok (.iadd, 1) := dAt bdL_law_3432 17 rfl
theorem dL_law_3454 : decode cL_law 3454 = .ok (.iaload, 1) := dAt bdL_law_3432 18 rfl
theorem dL_law_3455 : decode cL_law 3455 = .ok (.invokevirtual 381, 3) := dAt bdL_law_3432 19 rfl
theorem dL_law_3458 : decode cL_law 3458 = .ok (.istore 6, 2) := dAt bdL_law_3432 20 rfl
theorem dL_law_3460 : decode cL_law 3460 = .ok (.aload_n 2, 1) := dAt bdL_law_3432 21 rfl
theorem dL_law_3461 : decode cL_law 3461 = .ok (.invokevirtual 192, 3) := dAt bdL_law_3432 22 rfl
theorem dL_law_3464 : decode cL_law 3464 = .ok (.iload 5, 2) := dAt bdL_law_3432 23 rfl
theorem dL_law_3466 : decode cL_law 3466 = .ok (.if_icmp .eq 5, 3) := dAt bdL_law_3432 24 rfl
theorem dL_law_3471 : decode cL_law 3471 = .ok (.iload 5, 2) := dAt bdL_law_3432 25 rfl
theorem dL_law_3473 : decode cL_law 3473 = .ok (.ifCond .ne 15, 3) := dAt bdL_law_3432 26 rfl
theorem dL_law_3488 : decode cL_law 3488 = .ok (.goto 3, 3) := dAt bdL_law_3432 27 rfl
theorem dL_law_3491 : decode cL_law 3491 = .ok (.iinc 4 6, 3) := dAt bdL_law_3432 28 rfl
theorem dL_law_3494 : decode cL_law 3494 = .ok (.goto (-3471), 3) := dAt bdL_law_3432 29 rfl
theorem dL_law_3497 : decode cL_law 3497 = .ok (.iconst 1, 1) := dAt bdL_law_3432 30 rfl
theorem dL_law_3498 : decode cL_law 3498 = .ok (.ireturn, 1) := dAt bdL_law_3432 31 rfl
