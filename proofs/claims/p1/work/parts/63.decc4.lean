theorem dL_law_2927 : decode cL_law 2927 = .ok (.iadd, 1) := by decide +kernel
theorem dL_law_2928 : decode cL_law 2928 = .ok (.iaload, 1) := by decide +kernel
theorem dL_law_2929 : decode cL_law 2929 = .ok (.aload_n 0, 1) := by decide +kernel
theorem dL_law_2930 : decode cL_law 2930 = .ok (.iload 4, 2) := by decide +kernel
theorem dL_law_2932 : decode cL_law 2932 = .ok (.iconst 3, 1) := by decide +kernel
theorem dL_law_2933 : decode cL_law 2933 = .ok (.iadd, 1) := by decide +kernel
theorem dL_law_2934 : decode cL_law 2934 = .ok (.iaload, 1) := by decide +kernel
theorem dL_law_2935 : decode cL_law 2935 = .ok (.invokevirtual 361, 3) := by decide +kernel
theorem dL_law_2938 : decode cL_law 2938 = .ok (.istore 6, 2) := by decide +kernel
theorem dL_law_2940 : decode cL_law 2940 = .ok (.aload_n 2, 1) := by decide +kernel
theorem dL_law_2941 : decode cL_law 2941 = .ok (.invokevirtual 192, 3) := by decide +kernel
theorem dL_law_2944 : decode cL_law 2944 = .ok (.iload 5, 2) := by decide +kernel
theorem dL_law_2946 : decode cL_law 2946 = .ok (.if_icmp .eq 5, 3) := by decide +kernel
theorem dL_law_2951 : decode cL_law 2951 = .ok (.iload 5, 2) := by decide +kernel
theorem dL_law_2953 : decode cL_law 2953 = .ok (.ifCond .ne 15, 3) := by decide +kernel
theorem dL_law_2968 : decode cL_law 2968 = .ok (.goto 523, 3) := by decide +kernel
theorem dL_law_2971 : decode cL_law 2971 = .ok (.aload_n 1, 1) := by decide +kernel
theorem dL_law_2972 : decode cL_law 2972 = .ok (.aload_n 0, 1) := by decide +kernel
theorem dL_law_2973 : decode cL_law 2973 = .ok (.iload 4, 2) := by decide +kernel
theorem dL_law_2975 : decode cL_law 2975 = .ok (.iconst 1, 1) := by decide +kernel
theorem dL_law_2976 : decode cL_law 2976 = .ok (.iadd, 1) := by decide +kernel
theorem dL_law_2977 : decode cL_law 2977 = .ok (.iaload, 1) := by decide +kernel
theorem dL_law_2978 : decode cL_law 2978 = .ok (.aload_n 0, 1) := by decide +kernel
theorem dL_law_2979 : decode cL_law 2979 = .ok (.iload 4, 2) := by decide +kernel
theorem dL_law_2981 : decode cL_law 2981 = .ok (.iconst 2, 1) := by decide +kernel
theorem dL_law_2982 : decode cL_law 2982 = .ok (.iadd, 1) := by decide +kernel
theorem dL_law_2983 : decode cL_law 2983 = .ok (.iaload, 1) := by decide +kernel
theorem dL_law_2984 : decode cL_law 2984 = .ok (.aload_n 3, 1) := by decide +kernel
theorem dL_law_2985 : decode cL_law 2985 = .ok (.invokestatic 362, 3) := by decide +kernel
theorem dL_law_2988 : decode cL_law 2988 = .ok (.istore 5, 2) := by decide +kernel
theorem dL_law_2990 : decode cL_law 2990 = .ok (.aload_n 2, 1) := by decide +kernel
theorem dL_law_2991 : decode cL_law 2991 = .ok (.aload_n 0, 1) := by decide +kernel
theorem dL_law_2992 : decode cL_law 2992 = .ok (.iload 4, 2) := by decide +kernel
theorem dL_law_2994 : decode cL_law 2994 = .ok (.iconst 1, 1) := by decide +kernel
theorem dL_law_2995 : decode cL_law 2995 = .ok (.iadd, 1) := by decide +kernel
theorem dL_law_2996 : decode cL_law 2996 = .ok (.iaload, 1) := by decide +kernel
theorem dL_law_2997 : decode cL_law 2997 = .ok (.aload_n 0, 1) := by decide +kernel
theorem dL_law_2998 : decode cL_law 2998 = .ok (.iload 4, 2) := by decide +kernel
theorem dL_law_3000 : decode cL_law 3000 = .ok (.iconst 2, 1) := by decide +kernel
theorem dL_law_3001 : decode cL_law 3001 = .ok (.iadd, 1) := by decide +kernel
theorem dL_law_3002 : decode cL_law 3002 = .ok (.iaload, 1) := by decide +kernel
theorem dL_law_3003 : decode cL_law 3003 = .ok (.invokevirtual 364, 3) := by decide +kernel
theorem dL_law_3006 : decode cL_law 3006 = .ok (.istore 6, 2) := by decide +kernel
theorem dL_law_3008 : decode cL_law 3008 = .ok (.aload_n 2, 1) := by decide +kernel
theorem dL_law_3009 : decode cL_law 3009 = .ok (.invokevirtual 192, 3) := by decide +kernel
theorem dL_law_3012 : decode cL_law 3012 = .ok (.iload 5, 2) := by decide +kernel
theorem dL_law_3014 : decode cL_law 3014 = .ok (.if_icmp .eq 5, 3) := by decide +kernel
theorem dL_law_3019 : decode cL_law 3019 = .ok (.iload 5, 2) := by decide +kernel
theorem dL_law_3021 : decode cL_law 3021 = .ok (.ifCond .ne 15, 3) := by decide +kernel
theorem dL_law_3036 : decode cL_law 3036 = .ok (.goto 455, 3) := by decide +kernel
theorem dL_law_3039 : decode cL_law 3039 = .ok (.aload_n 1, 1) := by decide +kernel
theorem dL_law_3040 : decode cL_law 3040 = .ok (.aload_n 0, 1) := by decide +kernel
theorem dL_law_3041 : decode cL_law 3041 = .ok (.iload 4, 2) := by decide +kernel
theorem dL_law_3043 : decode cL_law 3043 = .ok (.iconst 1, 1) := by decide +kernel
theorem dL_law_3044 : decode cL_law 3044 = .ok (.iadd, 1) := by decide +kernel
theorem dL_law_3045 : decode cL_law 3045 = .ok (.iaload, 1) := by decide +kernel
theorem dL_law_3046 : decode cL_law 3046 = .ok (.aload_n 0, 1) := by decide +kernel
theorem dL_law_3047 : decode cL_law 3047 = .ok (.iload 4, 2) := by decide +kernel
theorem dL_law_3049 : decode cL_law 3049 = .ok (.iconst 2, 1) := by decide +kernel
theorem dL_law_3050 : decode cL_law 3050 = .ok (.iadd, 1) := by decide +kernel
theorem dL_law_3051 : decode cL_law 3051 = .ok (.iaload, 1) := by decide +kernel
theorem dL_law_3052 : decode cL_law 3052 = .ok (.aload_n 3, 1) := by decide +kernel
theorem dL_law_3053 : decode cL_law 3053 = .ok (.invokestatic 365, 3) := by decide +kernel
theorem dL_law_3056 : decode cL_law 3056 = .ok (.istore 5, 2) := by decide +kernel
theorem dL_law_3058 : decode cL_law 3058 = .ok (.aload_n 2, 1) := by decide +kernel
theorem dL_law_3059 : decode cL_law 3059 = .ok (.aload_n 0, 1) := by decide +kernel
theorem dL_law_3060 : decode cL_law 3060 = .ok (.iload 4, 2) := by decide +kernel
theorem dL_law_3062 : decode cL_law 3062 = .ok (.iconst 1, 1) := by decide +kernel
theorem dL_law_3063 : decode cL_law 3063 = .ok (.iadd, 1) := by decide +kernel
theorem dL_law_3064 : decode cL_law 3064 = .ok (.iaload, 1) := by decide +kernel
theorem dL_law_3065 : decode cL_law 3065 = .ok (.aload_n 0, 1) := by decide +kernel
theorem dL_law_3066 : decode cL_law 3066 = .ok (.iload 4, 2) := by decide +kernel
theorem dL_law_3068 : decode cL_law 3068 = .ok (.iconst 2, 1) := by decide +kernel
theorem dL_law_3069 : decode cL_law 3069 = .ok (.iadd, 1) := by decide +kernel
theorem dL_law_3070 : decode cL_law 3070 = .ok (.iaload, 1) := by decide +kernel
theorem dL_law_3071 : decode cL_law 3071 = .ok (.invokevirtual 367, 3) := by decide +kernel
theorem dL_law_3074 : decode cL_law 3074 = .ok (.istore 6, 2) := by decide +kernel
theorem dL_law_3076 : decode cL_law 3076 = .ok (.aload_n 2, 1) := by decide +kernel
theorem dL_law_3077 : decode cL_law 3077 = .ok (.invokevirtual 192, 3) := by decide +kernel
theorem dL_law_3080 : decode cL_law 3080 = .ok (.iload 5, 2) := by decide +kernel
theorem dL_law_3082 : decode cL_law 3082 = .ok (.if_icmp .eq 5, 3) := by decide +kernel
theorem dL_law_3087 : decode cL_law 3087 = .ok (.iload 5, 2) := by decide +kernel
theorem dL_law_3089 : decode cL_law 3089 = .ok (.ifCond .ne 15, 3) := by decide +kernel
theorem dL_law_3104 : decode cL_law 3104 = .ok (.goto 387, 3) := by decide +kernel
theorem dL_law_3107 : decode cL_law 3107 = .ok (.aload_n 1, 1) := by decide +kernel
theorem dL_law_3108 : decode cL_law 3108 = .ok (.aload_n 0, 1) := by decide +kernel
theorem dL_law_3109 : decode cL_law 3109 = .ok (.iload 4, 2) := by decide +kernel
theorem dL_law_3111 : decode cL_law 3111 = .ok (.iconst 1, 1) := by decide +kernel
theorem dL_law_3112 : decode cL_law 3112 = .ok (.iadd, 1) := by decide +kernel
theorem dL_law_3113 : decode cL_law 3113 = .ok (.iaload, 1) := by decide +kernel
theorem dL_law_3114 : decode cL_law 3114 = .ok (.aload_n 0, 1) := by decide +kernel
theorem dL_law_3115 : decode cL_law 3115 = .ok (.iload 4, 2) := by decide +kernel
theorem dL_law_3117 : decode cL_law 3117 = .ok (.iconst 2, 1) := by decide +kernel
theorem dL_law_3118 : decode cL_law 3118 = .ok (.iadd, 1) := by decide +kernel
theorem dL_law_3119 : decode cL_law 3119 = .ok (.iaload, 1) := by decide +kernel
theorem dL_law_3120 : decode cL_law 3120 = .ok (.aload_n 0, 1) := by decide +kernel
theorem dL_law_3121 : decode cL_law 3121 = .ok (.iload 4, 2) := by decide +kernel
theorem dL_law_3123 : decode cL_law 3123 = .ok (.iconst 3, 1) := by decide +kernel
theorem dL_law_3124 : decode cL_law 3124 = .ok (.iadd, 1) := by decide +kernel
theorem dL_law_3125 : decode cL_law 3125 = .ok (.iaload, 1) := by decide +kernel
theorem dL_law_3126 : decode cL_law 3126 = .ok (.aload_n 3, 1) := by decide +kernel
theorem dL_law_3127 : decode cL_law 3127 = .ok (.invokestatic 368, 3) := by decide +kernel
theorem dL_law_3130 : decode cL_law 3130 = .ok (.istore 5, 2) := by decide +kernel
theorem dL_law_3132 : decode cL_law 3132 = .ok (.aload_n 2, 1) := by decide +kernel
theorem dL_law_3133 : decode cL_law 3133 = .ok (.aload_n 0, 1) := by decide +kernel
theorem dL_law_3134 : decode cL_law 3134 = .ok (.iload 4, 2) := by decide +kernel
theorem dL_law_3136 : decode cL_law 3136 = .ok (.iconst 1, 1) := by decide +kernel
theorem dL_law_3137 : decode cL_law 3137 = .ok (.iadd, 1) := by decide +kernel
theorem dL_law_3138 : decode cL_law 3138 = .ok (.iaload, 1) := by decide +kernel
theorem dL_law_3139 : decode cL_law 3139 = .ok (.aload_n 0, 1) := by decide +kernel
theorem dL_law_3140 : decode cL_law 3140 = .ok (.iload 4, 2) := by decide +kernel
theorem dL_law_3142 : decode cL_law 3142 = .ok (.iconst 2, 1) := by decide +kernel
theorem dL_law_3143 : decode cL_law 3143 = .ok (.iadd, 1) := by decide +kernel
theorem dL_law_3144 : decode cL_law 3144 = .ok (.iaload, 1) := by decide +kernel
theorem dL_law_3145 : decode cL_law 3145 = .ok (.aload_n 0, 1) := by decide +kernel
theorem dL_law_3146 : decode cL_law 3146 = .ok (.iload 4, 2) := by decide +kernel
theorem dL_law_3148 : decode cL_law 3148 = .ok (.iconst 3, 1) := by decide +kernel
theorem dL_law_3149 : decode cL_law 3149 = .ok (.iadd, 1) := by decide +kernel
theorem dL_law_3150 : decode cL_law 3150 = .ok (.iaload, 1) := by decide +kernel
theorem dL_law_3151 : decode cL_law 3151 = .ok (.invokevirtual 370, 3) := by decide +kernel
theorem dL_law_3154 : decode cL_law 3154 = .ok (.istore 6, 2) := by decide +kernel
theorem dL_law_3156 : decode cL_law 3156 = .ok (.aload_n 2, 1) := by decide +kernel
theorem dL_law_3157 : decode cL_law 3157 = .ok (.invokevirtual 192, 3) := by decide +kernel
theorem dL_law_3160 : decode cL_law 3160 = .ok (.iload 5, 2) := by decide +kernel
theorem dL_law_3162 : decode cL_law 3162 = .ok (.if_icmp .eq 5, 3) := by decide +kernel
theorem dL_law_3167 : decode cL_law 3167 = .ok (.iload 5, 2) := by decide +kernel
theorem dL_law_3169 : decode cL_law 3169 = .ok (.ifCond .ne 15, 3) := by decide +kernel
theorem dL_law_3184 : decode cL_law 3184 = .ok (.goto 307, 3) := by decide +kernel
theorem dL_law_3187 : decode cL_law 3187 = .ok (.aload_n 1, 1) := by decide +kernel
theorem dL_law_3188 : decode cL_law 3188 = .ok (.aload_n 0, 1) := by decide +kernel
theorem dL_law_3189 : decode cL_law 3189 = .ok (.iload 4, 2) := by decide +kernel
theorem dL_law_3191 : decode cL_law 3191 = .ok (.iconst 1, 1) := by decide +kernel
theorem dL_law_3192 : decode cL_law 3192 = .ok (.iadd, 1) := by decide +kernel
theorem dL_law_3193 : decode cL_law 3193 = .ok (.iaload, 1) := by decide +kernel
theorem dL_law_3194 : decode cL_law 3194 = .ok (.aload_n 0, 1) := by decide +kernel
theorem dL_law_3195 : decode cL_law 3195 = .ok (.iload 4, 2) := by decide +kernel
theorem dL_law_3197 : decode cL_law 3197 = .ok (.iconst 2, 1) := by decide +kernel
theorem dL_law_3198 : decode cL_law 3198 = .ok (.iadd, 1) := by decide +kernel
theorem dL_law_3199 : decode cL_law 3199 = .ok (.iaload, 1) := by decide +kernel
theorem dL_law_3200 : decode cL_law 3200 = .ok (.aload_n 0, 1) := by decide +kernel
theorem dL_law_3201 : decode cL_law 3201 = .ok (.iload 4, 2) := by decide +kernel
theorem dL_law_3203 : decode cL_law 3203 = .ok (.iconst 3, 1) := by decide +kernel
theorem dL_law_3204 : decode cL_law 3204 = .ok (.iadd, 1) := by decide +kernel
theorem dL_law_3205 : decode cL_law 3205 = .ok (.iaload, 1) := by decide +kernel
theorem dL_law_3206 : decode cL_law 3206 = .ok (.ifCond .eq 7, 3) := by decide +kernel
theorem dL_law_3209 : decode cL_law 3209 = .ok (.iconst 1, 1) := by decide +kernel
theorem dL_law_3210 : decode cL_law 3210 = .ok (.goto 4, 3) := by decide +kernel
theorem dL_law_3213 : decode cL_law 3213 = .ok (.iconst 0, 1) := by decide +kernel
theorem dL_law_3214 : decode cL_law 3214 = .ok (.aload_n 0, 1) := by decide +kernel
theorem dL_law_3215 : decode cL_law 3215 = .ok (.iload 4, 2) := by decide +kernel
theorem dL_law_3217 : decode cL_law 3217 = .ok (.iconst 4, 1) := by decide +kernel
theorem dL_law_3218 : decode cL_law 3218 = .ok (.iadd, 1) := by decide +kernel
theorem dL_law_3219 : decode cL_law 3219 = .ok (.iaload, 1) := by decide +kernel
theorem dL_law_3220 : decode cL_law 3220 = .ok (.aload_n 3, 1) := by decide +kernel
theorem dL_law_3221 : decode cL_law 3221 = .ok (.invokestatic 371, 3) := by decide +kernel
theorem dL_law_3224 : decode cL_law 3224 = .ok (.istore 5, 2) := by decide +kernel
theorem dL_law_3226 : decode cL_law 3226 = .ok (.aload_n 2, 1) := by decide +kernel
theorem dL_law_3227 : decode cL_law 3227 = .ok (.aload_n 0, 1) := by decide +kernel
theorem dL_law_3228 : decode cL_law 3228 = .ok (.iload 4, 2) := by decide +kernel
theorem dL_law_3230 : decode cL_law 3230 = .ok (.iconst 1, 1) := by decide +kernel
theorem dL_law_3231 : decode cL_law 3231 = .ok (.iadd, 1) := by decide +kernel
theorem dL_law_3232 : decode cL_law 3232 = .ok (.iaload, 1) := by decide +kernel
theorem dL_law_3233 : decode cL_law 3233 = .ok (.aload_n 0, 1) := by decide +kernel
theorem dL_law_3234 : decode cL_law 3234 = .ok (.iload 4, 2) := by decide +kernel
theorem dL_law_3236 : decode cL_law 3236 = .ok (.iconst 2, 1) := by decide +kernel
theorem dL_law_3237 : decode cL_law 3237 = .ok (.iadd, 1) := by decide +kernel
theorem dL_law_3238 : decode cL_law 3238 = .ok (.iaload, 1) := by decide +kernel
theorem dL_law_3239 : decode cL_law 3239 = .ok (.aload_n 0, 1) := by decide +kernel
theorem dL_law_3240 : decode cL_law 3240 = .ok (.iload 4, 2) := by decide +kernel
theorem dL_law_3242 : decode cL_law 3242 = .ok (.iconst 3, 1) := by decide +kernel
theorem dL_law_3243 : decode cL_law 3243 = .ok (.iadd, 1) := by decide +kernel
theorem dL_law_3244 : decode cL_law 3244 = .ok (.iaload, 1) := by decide +kernel
theorem dL_law_3245 : decode cL_law 3245 = .ok (.ifCond .eq 7, 3) := by decide +kernel
theorem dL_law_3248 : decode cL_law 3248 = .ok (.iconst 1, 1) := by decide +kernel
theorem dL_law_3249 : decode cL_law 3249 = .ok (.goto 4, 3) := by decide +kernel
theorem dL_law_3252 : decode cL_law 3252 = .ok (.iconst 0, 1) := by decide +kernel
theorem dL_law_3253 : decode cL_law 3253 = .ok (.aload_n 0, 1) := by decide +kernel
theorem dL_law_3254 : decode cL_law 3254 = .ok (.iload 4, 2) := by decide +kernel
theorem dL_law_3256 : decode cL_law 3256 = .ok (.iconst 4, 1) := by decide +kernel
theorem dL_law_3257 : decode cL_law 3257 = .ok (.iadd, 1) := by decide +kernel
theorem dL_law_3258 : decode cL_law 3258 = .ok (.iaload, 1) := by decide +kernel
theorem dL_law_3259 : decode cL_law 3259 = .ok (.invokevirtual 374, 3) := by decide +kernel
theorem dL_law_3262 : decode cL_law 3262 = .ok (.istore 6, 2) := by decide +kernel
theorem dL_law_3264 : decode cL_law 3264 = .ok (.aload_n 2, 1) := by decide +kernel
theorem dL_law_3265 : decode cL_law 3265 = .ok (.invokevirtual 192, 3) := by decide +kernel
theorem dL_law_3268 : decode cL_law 3268 = .ok (.iload 5, 2) := by decide +kernel
theorem dL_law_3270 : decode cL_law 3270 = .ok (.if_icmp .eq 5, 3) := by decide +kernel
theorem dL_law_3275 : decode cL_law 3275 = .ok (.iload 5, 2) := by decide +kernel
theorem dL_law_3277 : decode cL_law 3277 = .ok (.ifCond .ne 15, 3) := by decide +kernel
theorem dL_law_3292 : decode cL_law 3292 = .ok (.goto 199, 3) := by decide +kernel
theorem dL_law_3295 : decode cL_law 3295 = .ok (.aload_n 1, 1) := by decide +kernel
theorem dL_law_3296 : decode cL_law 3296 = .ok (.aload_n 0, 1) := by decide +kernel
theorem dL_law_3297 : decode cL_law 3297 = .ok (.iload 4, 2) := by decide +kernel
theorem dL_law_3299 : decode cL_law 3299 = .ok (.iconst 1, 1) := by decide +kernel
theorem dL_law_3300 : decode cL_law 3300 = .ok (.iadd, 1) := by decide +kernel
theorem dL_law_3301 : decode cL_law 3301 = .ok (.iaload, 1) := by decide +kernel
theorem dL_law_3302 : decode cL_law 3302 = .ok (.aload_n 0, 1) := by decide +kernel
theorem dL_law_3303 : decode cL_law 3303 = .ok (.iload 4, 2) := by decide +kernel
theorem dL_law_3305 : decode cL_law 3305 = .ok (.iconst 2, 1) := by decide +kernel
theorem dL_law_3306 : decode cL_law 3306 = .ok (.iadd, 1) := by decide +kernel
theorem dL_law_3307 : decode cL_law 3307 = .ok (.iaload, 1) := by decide +kernel
theorem dL_law_3308 : decode cL_law 3308 = .ok (.aload_n 0, 1) := by decide +kernel
theorem dL_law_3309 : decode cL_law 3309 = .ok (.iload 4, 2) := by decide +kernel
theorem dL_law_3311 : decode cL_law 3311 = .ok (.iconst 3, 1) := by decide +kernel
theorem dL_law_3312 : decode cL_law 3312 = .ok (.iadd, 1) := by decide +kernel
theorem dL_law_3313 : decode cL_law 3313 = .ok (.iaload, 1) := by decide +kernel
theorem dL_law_3314 : decode cL_law 3314 = .ok (.aload_n 0, 1) := by decide +kernel
theorem dL_law_3315 : decode cL_law 3315 = .ok (.iload 4, 2) := by decide +kernel
theorem dL_law_3317 : decode cL_law 3317 = .ok (.iconst 4, 1) := by decide +kernel
theorem dL_law_3318 : decode cL_law 3318 = .ok (.iadd, 1) := by decide +kernel
theorem dL_law_3319 : decode cL_law 3319 = .ok (.iaload, 1) := by decide +kernel
theorem dL_law_3320 : decode cL_law 3320 = .ok (.aload_n 3, 1) := by decide +kernel
theorem dL_law_3321 : decode cL_law 3321 = .ok (.invokestatic 375, 3) := by decide +kernel
theorem dL_law_3324 : decode cL_law 3324 = .ok (.istore 5, 2) := by decide +kernel
theorem dL_law_3326 : decode cL_law 3326 = .ok (.aload_n 2, 1) := by decide +kernel
theorem dL_law_3327 : decode cL_law 3327 = .ok (.aload_n 0, 1) := by decide +kernel
theorem dL_law_3328 : decode cL_law 3328 = .ok (.iload 4, 2) := by decide +kernel
theorem dL_law_3330 : decode cL_law 3330 = .ok (.iconst 1, 1) := by decide +kernel
theorem dL_law_3331 : decode cL_law 3331 = .ok (.iadd, 1) := by decide +kernel
theorem dL_law_3332 : decode cL_law 3332 = .ok (.iaload, 1) := by decide +kernel
theorem dL_law_3333 : decode cL_law 3333 = .ok (.aload_n 0, 1) := by decide +kernel
theorem dL_law_3334 : decode cL_law 3334 = .ok (.iload 4, 2) := by decide +kernel
theorem dL_law_3336 : decode cL_law 3336 = .ok (.iconst 2, 1) := by decide +kernel
theorem dL_law_3337 : decode cL_law 3337 = .ok (.iadd, 1) := by decide +kernel
theorem dL_law_3338 : decode cL_law 3338 = .ok (.iaload, 1) := by decide +kernel
theorem dL_law_3339 : decode cL_law 3339 = .ok (.aload_n 0, 1) := by decide +kernel
theorem dL_law_3340 : decode cL_law 3340 = .ok (.iload 4, 2) := by decide +kernel
theorem dL_law_3342 : decode cL_law 3342 = .ok (.iconst 3, 1) := by decide +kernel
theorem dL_law_3343 : decode cL_law 3343 = .ok (.iadd, 1) := by decide +kernel
theorem dL_law_3344 : decode cL_law 3344 = .ok (.iaload, 1) := by decide +kernel
theorem dL_law_3345 : decode cL_law 3345 = .ok (.aload_n 0, 1) := by decide +kernel
theorem dL_law_3346 : decode cL_law 3346 = .ok (.iload 4, 2) := by decide +kernel
theorem dL_law_3348 : decode cL_law 3348 = .ok (.iconst 4, 1) := by decide +kernel
theorem dL_law_3349 : decode cL_law 3349 = .ok (.iadd, 1) := by decide +kernel
theorem dL_law_3350 : decode cL_law 3350 = .ok (.iaload, 1) := by decide +kernel
theorem dL_law_3351 : decode cL_law 3351 = .ok (.invokevirtual 377, 3) := by decide +kernel
theorem dL_law_3354 : decode cL_law 3354 = .ok (.istore 6, 2) := by decide +kernel
theorem dL_law_3356 : decode cL_law 3356 = .ok (.aload_n 2, 1) := by decide +kernel
theorem dL_law_3357 : decode cL_law 3357 = .ok (.invokevirtual 192, 3) := by decide +kernel
theorem dL_law_3360 : decode cL_law 3360 = .ok (.iload 5, 2) := by decide +kernel
theorem dL_law_3362 : decode cL_law 3362 = .ok (.if_icmp .eq 5, 3) := by decide +kernel
theorem dL_law_3367 : decode cL_law 3367 = .ok (.iload 5, 2) := by decide +kernel
theorem dL_law_3369 : decode cL_law 3369 = .ok (.ifCond .ne 15, 3) := by decide +kernel
theorem dL_law_3384 : decode cL_law 3384 = .ok (.goto 107, 3) := by decide +kernel
theorem dL_law_3387 : decode cL_law 3387 = .ok (.aload_n 1, 1) := by decide +kernel
theorem dL_law_3388 : decode cL_law 3388 = .ok (.aload_n 0, 1) := by decide +kernel
theorem dL_law_3389 : decode cL_law 3389 = .ok (.iload 4, 2) := by decide +kernel
theorem dL_law_3391 : decode cL_law 3391 = .ok (.iconst 1, 1) := by decide +kernel
theorem dL_law_3392 : decode cL_law 3392 = .ok (.iadd, 1) := by decide +kernel
theorem dL_law_3393 : decode cL_law 3393 = .ok (.iaload, 1) := by decide +kernel
theorem dL_law_3394 : decode cL_law 3394 = .ok (.aload_n 0, 1) := by decide +kernel
theorem dL_law_3395 : decode cL_law 3395 = .ok (.iload 4, 2) := by decide +kernel
theorem dL_law_3397 : decode cL_law 3397 = .ok (.iconst 2, 1) := by decide +kernel
theorem dL_law_3398 : decode cL_law 3398 = .ok (.iadd, 1) := by decide +kernel
theorem dL_law_3399 : decode cL_law 3399 = .ok (.iaload, 1) := by decide +kernel
theorem dL_law_3400 : decode cL_law 3400 = .ok (.aload_n 0, 1) := by decide +kernel
theorem dL_law_3401 : decode cL_law 3401 = .ok (.iload 4, 2) := by decide +kernel
theorem dL_law_3403 : decode cL_law 3403 = .ok (.iconst 3, 1) := by decide +kernel
theorem dL_law_3404 : decode cL_law 3404 = .ok (.iadd, 1) := by decide +kernel
theorem dL_law_3405 : decode cL_law 3405 = .ok (.iaload, 1) := by decide +kernel
theorem dL_law_3406 : decode cL_law 3406 = .ok (.aload_n 0, 1) := by decide +kernel
theorem dL_law_3407 : decode cL_law 3407 = .ok (.iload 4, 2) := by decide +kernel
theorem dL_law_3409 : decode cL_law 3409 = .ok (.iconst 4, 1) := by decide +kernel
theorem dL_law_3410 : decode cL_law 3410 = .ok (.iadd, 1) := by decide +kernel
theorem dL_law_3411 : decode cL_law 3411 = .ok (.iaload, 1) := by decide +kernel
theorem dL_law_3412 : decode cL_law 3412 = .ok (.aload_n 0, 1) := by decide +kernel
theorem dL_law_3413 : decode cL_law 3413 = .ok (.iload 4, 2) := by decide +kernel
theorem dL_law_3415 : decode cL_law 3415 = .ok (.iconst 5, 1) := by decide +kernel
theorem dL_law_3416 : decode cL_law 3416 = .ok (.iadd, 1) := by decide +kernel
theorem dL_law_3417 : decode cL_law 3417 = .ok (.iaload, 1) := by decide +kernel
theorem dL_law_3418 : decode cL_law 3418 = .ok (.aload_n 3, 1) := by decide +kernel
theorem dL_law_3419 : decode cL_law 3419 = .ok (.invokestatic 378, 3) := by decide +kernel
theorem dL_law_3422 : decode cL_law 3422 = .ok (.istore 5, 2) := by decide +kernel
theorem dL_law_3424 : decode cL_law 3424 = .ok (.aload_n 2, 1) := by decide +kernel
theorem dL_law_3425 : decode cL_law 3425 = .ok (.aload_n 0, 1) := by decide +kernel
theorem dL_law_3426 : decode cL_law 3426 = .ok (.iload 4, 2) := by decide +kernel
theorem dL_law_3428 : decode cL_law 3428 = .ok (.iconst 1, 1) := by decide +kernel
theorem dL_law_3429 : decode cL_law 3429 = .ok (.iadd, 1) := by decide +kernel
theorem dL_law_3430 : decode cL_law 3430 = .ok (.iaload, 1) := by decide +kernel
theorem dL_law_3431 : decode cL_law 3431 = .ok (.aload_n 0, 1) := by decide +kernel
theorem dL_law_3432 : decode cL_law 3432 = .ok (.iload 4, 2) := by decide +kernel
theorem dL_law_3434 : decode cL_law 3434 = .ok (.iconst 2, 1) := by decide +kernel
theorem dL_law_3435 : decode cL_law 3435 = .ok (.iadd, 1) := by decide +kernel
theorem dL_law_3436 : decode cL_law 3436 = .ok (.iaload, 1) := by decide +kernel
theorem dL_law_3437 : decode cL_law 3437 = .ok (.aload_n 0, 1) := by decide +kernel
theorem dL_law_3438 : decode cL_law 3438 = .ok (.iload 4, 2) := by decide +kernel
theorem dL_law_3440 : decode cL_law 3440 = .ok (.iconst 3, 1) := by decide +kernel
theorem dL_law_3441 : decode cL_law 3441 = .ok (.iadd, 1) := by decide +kernel
theorem dL_law_3442 : decode cL_law 3442 = .ok (.iaload, 1) := by decide +kernel
theorem dL_law_3443 : decode cL_law 3443 = .ok (.aload_n 0, 1) := by decide +kernel
theorem dL_law_3444 : decode cL_law 3444 = .ok (.iload 4, 2) := by decide +kernel
theorem dL_law_3446 : decode cL_law 3446 = .ok (.iconst 4, 1) := by decide +kernel
theorem dL_law_3447 : decode cL_law 3447 = .ok (.iadd, 1) := by decide +kernel
theorem dL_law_3448 : decode cL_law 3448 = .ok (.iaload, 1) := by decide +kernel
theorem dL_law_3449 : decode cL_law 3449 = .ok (.aload_n 0, 1) := by decide +kernel
theorem dL_law_3450 : decode cL_law 3450 = .ok (.iload 4, 2) := by decide +kernel
theorem dL_law_3452 : decode cL_law 3452 = .ok (.iconst 5, 1) := by decide +kernel
theorem dL_law_3453 : decode cL_law 3453 = .ok (.iadd, 1) := by decide +kernel
theorem dL_law_3454 : decode cL_law 3454 = .ok (.iaload, 1) := by decide +kernel
theorem dL_law_3455 : decode cL_law 3455 = .ok (.invokevirtual 381, 3) := by decide +kernel
theorem dL_law_3458 : decode cL_law 3458 = .ok (.istore 6, 2) := by decide +kernel
theorem dL_law_3460 : decode cL_law 3460 = .ok (.aload_n 2, 1) := by decide +kernel
theorem dL_law_3461 : decode cL_law 3461 = .ok (.invokevirtual 192, 3) := by decide +kernel
theorem dL_law_3464 : decode cL_law 3464 = .ok (.iload 5, 2) := by decide +kernel
theorem dL_law_3466 : decode cL_law 3466 = .ok (.if_icmp .eq 5, 3) := by decide +kernel
theorem dL_law_3471 : decode cL_law 3471 = .ok (.iload 5, 2) := by decide +kernel
theorem dL_law_3473 : decode cL_law 3473 = .ok (.ifCond .ne 15, 3) := by decide +kernel
theorem dL_law_3488 : decode cL_law 3488 = .ok (.goto 3, 3) := by decide +kernel
theorem dL_law_3491 : decode cL_law 3491 = .ok (.iinc 4 6, 3) := by decide +kernel
theorem dL_law_3494 : decode cL_law 3494 = .ok (.goto (-3471), 3) := by decide +kernel
theorem dL_law_3497 : decode cL_law 3497 = .ok (.iconst 1, 1) := by decide +kernel
theorem dL_law_3498 : decode cL_law 3498 = .ok (.ireturn, 1) := by decide +kernel
