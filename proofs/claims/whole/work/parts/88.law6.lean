theorem dL_law_3100 : decode cL_law 3100 = .ok (.ireturn, 1) := by decide +kernel
theorem dL_law_3101 : decode cL_law 3101 = .ok (.iload 5, 2) := by decide +kernel
theorem dL_law_3103 : decode cL_law 3103 = .ok (.ifCond .ne 15, 3) := by decide +kernel
theorem dL_law_3106 : decode cL_law 3106 = .ok (.aload_n 3, 1) := by decide +kernel
theorem dL_law_3107 : decode cL_law 3107 = .ok (.iconst 0, 1) := by decide +kernel
theorem dL_law_3108 : decode cL_law 3108 = .ok (.laload, 1) := by decide +kernel
theorem dL_law_3109 : decode cL_law 3109 = .ok (.iload 6, 2) := by decide +kernel
theorem dL_law_3111 : decode cL_law 3111 = .ok (.i2l, 1) := by decide +kernel
theorem dL_law_3112 : decode cL_law 3112 = .ok (.lcmp, 1) := by decide +kernel
theorem dL_law_3113 : decode cL_law 3113 = .ok (.ifCond .eq 5, 3) := by decide +kernel
theorem dL_law_3116 : decode cL_law 3116 = .ok (.iconst 0, 1) := by decide +kernel
theorem dL_law_3117 : decode cL_law 3117 = .ok (.ireturn, 1) := by decide +kernel
theorem dL_law_3118 : decode cL_law 3118 = .ok (.goto 920, 3) := by decide +kernel
theorem dL_law_3121 : decode cL_law 3121 = .ok (.aload_n 1, 1) := by decide +kernel
theorem dL_law_3122 : decode cL_law 3122 = .ok (.aload_n 0, 1) := by decide +kernel
theorem dL_law_3123 : decode cL_law 3123 = .ok (.iload 4, 2) := by decide +kernel
theorem dL_law_3125 : decode cL_law 3125 = .ok (.iconst 1, 1) := by decide +kernel
theorem dL_law_3126 : decode cL_law 3126 = .ok (.iadd, 1) := by decide +kernel
theorem dL_law_3127 : decode cL_law 3127 = .ok (.iaload, 1) := by decide +kernel
theorem dL_law_3128 : decode cL_law 3128 = .ok (.aload_n 0, 1) := by decide +kernel
theorem dL_law_3129 : decode cL_law 3129 = .ok (.iload 4, 2) := by decide +kernel
theorem dL_law_3131 : decode cL_law 3131 = .ok (.iconst 2, 1) := by decide +kernel
theorem dL_law_3132 : decode cL_law 3132 = .ok (.iadd, 1) := by decide +kernel
theorem dL_law_3133 : decode cL_law 3133 = .ok (.iaload, 1) := by decide +kernel
theorem dL_law_3134 : decode cL_law 3134 = .ok (.aload_n 0, 1) := by decide +kernel
theorem dL_law_3135 : decode cL_law 3135 = .ok (.iload 4, 2) := by decide +kernel
theorem dL_law_3137 : decode cL_law 3137 = .ok (.iconst 3, 1) := by decide +kernel
theorem dL_law_3138 : decode cL_law 3138 = .ok (.iadd, 1) := by decide +kernel
theorem dL_law_3139 : decode cL_law 3139 = .ok (.iaload, 1) := by decide +kernel
theorem dL_law_3140 : decode cL_law 3140 = .ok (.aload_n 3, 1) := by decide +kernel
theorem dL_law_3141 : decode cL_law 3141 = .ok (.invokestatic 344, 3) := by decide +kernel
theorem dL_law_3144 : decode cL_law 3144 = .ok (.istore 5, 2) := by decide +kernel
theorem dL_law_3146 : decode cL_law 3146 = .ok (.aload_n 2, 1) := by decide +kernel
theorem dL_law_3147 : decode cL_law 3147 = .ok (.aload_n 0, 1) := by decide +kernel
theorem dL_law_3148 : decode cL_law 3148 = .ok (.iload 4, 2) := by decide +kernel
theorem dL_law_3150 : decode cL_law 3150 = .ok (.iconst 1, 1) := by decide +kernel
theorem dL_law_3151 : decode cL_law 3151 = .ok (.iadd, 1) := by decide +kernel
theorem dL_law_3152 : decode cL_law 3152 = .ok (.iaload, 1) := by decide +kernel
theorem dL_law_3153 : decode cL_law 3153 = .ok (.aload_n 0, 1) := by decide +kernel
theorem dL_law_3154 : decode cL_law 3154 = .ok (.iload 4, 2) := by decide +kernel
theorem dL_law_3156 : decode cL_law 3156 = .ok (.iconst 2, 1) := by decide +kernel
theorem dL_law_3157 : decode cL_law 3157 = .ok (.iadd, 1) := by decide +kernel
theorem dL_law_3158 : decode cL_law 3158 = .ok (.iaload, 1) := by decide +kernel
theorem dL_law_3159 : decode cL_law 3159 = .ok (.aload_n 0, 1) := by decide +kernel
theorem dL_law_3160 : decode cL_law 3160 = .ok (.iload 4, 2) := by decide +kernel
theorem dL_law_3162 : decode cL_law 3162 = .ok (.iconst 3, 1) := by decide +kernel
theorem dL_law_3163 : decode cL_law 3163 = .ok (.iadd, 1) := by decide +kernel
theorem dL_law_3164 : decode cL_law 3164 = .ok (.iaload, 1) := by decide +kernel
theorem dL_law_3165 : decode cL_law 3165 = .ok (.invokevirtual 346, 3) := by decide +kernel
theorem dL_law_3168 : decode cL_law 3168 = .ok (.istore 6, 2) := by decide +kernel
theorem dL_law_3170 : decode cL_law 3170 = .ok (.aload_n 2, 1) := by decide +kernel
theorem dL_law_3171 : decode cL_law 3171 = .ok (.invokevirtual 204, 3) := by decide +kernel
theorem dL_law_3174 : decode cL_law 3174 = .ok (.iload 5, 2) := by decide +kernel
theorem dL_law_3176 : decode cL_law 3176 = .ok (.if_icmp .eq 5, 3) := by decide +kernel
theorem dL_law_3179 : decode cL_law 3179 = .ok (.iconst 0, 1) := by decide +kernel
theorem dL_law_3180 : decode cL_law 3180 = .ok (.ireturn, 1) := by decide +kernel
theorem dL_law_3181 : decode cL_law 3181 = .ok (.iload 5, 2) := by decide +kernel
theorem dL_law_3183 : decode cL_law 3183 = .ok (.ifCond .ne 15, 3) := by decide +kernel
theorem dL_law_3186 : decode cL_law 3186 = .ok (.aload_n 3, 1) := by decide +kernel
theorem dL_law_3187 : decode cL_law 3187 = .ok (.iconst 0, 1) := by decide +kernel
theorem dL_law_3188 : decode cL_law 3188 = .ok (.laload, 1) := by decide +kernel
theorem dL_law_3189 : decode cL_law 3189 = .ok (.iload 6, 2) := by decide +kernel
theorem dL_law_3191 : decode cL_law 3191 = .ok (.i2l, 1) := by decide +kernel
theorem dL_law_3192 : decode cL_law 3192 = .ok (.lcmp, 1) := by decide +kernel
theorem dL_law_3193 : decode cL_law 3193 = .ok (.ifCond .eq 5, 3) := by decide +kernel
theorem dL_law_3196 : decode cL_law 3196 = .ok (.iconst 0, 1) := by decide +kernel
theorem dL_law_3197 : decode cL_law 3197 = .ok (.ireturn, 1) := by decide +kernel
theorem dL_law_3198 : decode cL_law 3198 = .ok (.goto 840, 3) := by decide +kernel
theorem dL_law_3201 : decode cL_law 3201 = .ok (.aload_n 1, 1) := by decide +kernel
theorem dL_law_3202 : decode cL_law 3202 = .ok (.aload_n 0, 1) := by decide +kernel
theorem dL_law_3203 : decode cL_law 3203 = .ok (.iload 4, 2) := by decide +kernel
theorem dL_law_3205 : decode cL_law 3205 = .ok (.iconst 1, 1) := by decide +kernel
theorem dL_law_3206 : decode cL_law 3206 = .ok (.iadd, 1) := by decide +kernel
theorem dL_law_3207 : decode cL_law 3207 = .ok (.iaload, 1) := by decide +kernel
theorem dL_law_3208 : decode cL_law 3208 = .ok (.aload_n 3, 1) := by decide +kernel
theorem dL_law_3209 : decode cL_law 3209 = .ok (.invokestatic 347, 3) := by decide +kernel
theorem dL_law_3212 : decode cL_law 3212 = .ok (.istore 5, 2) := by decide +kernel
theorem dL_law_3214 : decode cL_law 3214 = .ok (.aload_n 2, 1) := by decide +kernel
theorem dL_law_3215 : decode cL_law 3215 = .ok (.aload_n 0, 1) := by decide +kernel
theorem dL_law_3216 : decode cL_law 3216 = .ok (.iload 4, 2) := by decide +kernel
theorem dL_law_3218 : decode cL_law 3218 = .ok (.iconst 1, 1) := by decide +kernel
theorem dL_law_3219 : decode cL_law 3219 = .ok (.iadd, 1) := by decide +kernel
theorem dL_law_3220 : decode cL_law 3220 = .ok (.iaload, 1) := by decide +kernel
theorem dL_law_3221 : decode cL_law 3221 = .ok (.invokevirtual 349, 3) := by decide +kernel
theorem dL_law_3224 : decode cL_law 3224 = .ok (.istore 6, 2) := by decide +kernel
theorem dL_law_3226 : decode cL_law 3226 = .ok (.aload_n 2, 1) := by decide +kernel
theorem dL_law_3227 : decode cL_law 3227 = .ok (.invokevirtual 204, 3) := by decide +kernel
theorem dL_law_3230 : decode cL_law 3230 = .ok (.iload 5, 2) := by decide +kernel
theorem dL_law_3232 : decode cL_law 3232 = .ok (.if_icmp .eq 5, 3) := by decide +kernel
theorem dL_law_3235 : decode cL_law 3235 = .ok (.iconst 0, 1) := by decide +kernel
theorem dL_law_3236 : decode cL_law 3236 = .ok (.ireturn, 1) := by decide +kernel
theorem dL_law_3237 : decode cL_law 3237 = .ok (.iload 5, 2) := by decide +kernel
theorem dL_law_3239 : decode cL_law 3239 = .ok (.ifCond .ne 15, 3) := by decide +kernel
theorem dL_law_3242 : decode cL_law 3242 = .ok (.aload_n 3, 1) := by decide +kernel
theorem dL_law_3243 : decode cL_law 3243 = .ok (.iconst 0, 1) := by decide +kernel
theorem dL_law_3244 : decode cL_law 3244 = .ok (.laload, 1) := by decide +kernel
theorem dL_law_3245 : decode cL_law 3245 = .ok (.iload 6, 2) := by decide +kernel
theorem dL_law_3247 : decode cL_law 3247 = .ok (.i2l, 1) := by decide +kernel
theorem dL_law_3248 : decode cL_law 3248 = .ok (.lcmp, 1) := by decide +kernel
theorem dL_law_3249 : decode cL_law 3249 = .ok (.ifCond .eq 5, 3) := by decide +kernel
theorem dL_law_3252 : decode cL_law 3252 = .ok (.iconst 0, 1) := by decide +kernel
theorem dL_law_3253 : decode cL_law 3253 = .ok (.ireturn, 1) := by decide +kernel
theorem dL_law_3254 : decode cL_law 3254 = .ok (.goto 784, 3) := by decide +kernel
theorem dL_law_3257 : decode cL_law 3257 = .ok (.aload_n 1, 1) := by decide +kernel
theorem dL_law_3258 : decode cL_law 3258 = .ok (.aload_n 0, 1) := by decide +kernel
theorem dL_law_3259 : decode cL_law 3259 = .ok (.iload 4, 2) := by decide +kernel
theorem dL_law_3261 : decode cL_law 3261 = .ok (.iconst 1, 1) := by decide +kernel
theorem dL_law_3262 : decode cL_law 3262 = .ok (.iadd, 1) := by decide +kernel
theorem dL_law_3263 : decode cL_law 3263 = .ok (.iaload, 1) := by decide +kernel
theorem dL_law_3264 : decode cL_law 3264 = .ok (.aload_n 3, 1) := by decide +kernel
theorem dL_law_3265 : decode cL_law 3265 = .ok (.invokestatic 350, 3) := by decide +kernel
theorem dL_law_3268 : decode cL_law 3268 = .ok (.istore 5, 2) := by decide +kernel
theorem dL_law_3270 : decode cL_law 3270 = .ok (.aload_n 2, 1) := by decide +kernel
theorem dL_law_3271 : decode cL_law 3271 = .ok (.aload_n 0, 1) := by decide +kernel
theorem dL_law_3272 : decode cL_law 3272 = .ok (.iload 4, 2) := by decide +kernel
theorem dL_law_3274 : decode cL_law 3274 = .ok (.iconst 1, 1) := by decide +kernel
theorem dL_law_3275 : decode cL_law 3275 = .ok (.iadd, 1) := by decide +kernel
theorem dL_law_3276 : decode cL_law 3276 = .ok (.iaload, 1) := by decide +kernel
theorem dL_law_3277 : decode cL_law 3277 = .ok (.invokevirtual 352, 3) := by decide +kernel
theorem dL_law_3280 : decode cL_law 3280 = .ok (.istore 6, 2) := by decide +kernel
theorem dL_law_3282 : decode cL_law 3282 = .ok (.aload_n 2, 1) := by decide +kernel
theorem dL_law_3283 : decode cL_law 3283 = .ok (.invokevirtual 204, 3) := by decide +kernel
theorem dL_law_3286 : decode cL_law 3286 = .ok (.iload 5, 2) := by decide +kernel
theorem dL_law_3288 : decode cL_law 3288 = .ok (.if_icmp .eq 5, 3) := by decide +kernel
theorem dL_law_3291 : decode cL_law 3291 = .ok (.iconst 0, 1) := by decide +kernel
theorem dL_law_3292 : decode cL_law 3292 = .ok (.ireturn, 1) := by decide +kernel
theorem dL_law_3293 : decode cL_law 3293 = .ok (.iload 5, 2) := by decide +kernel
theorem dL_law_3295 : decode cL_law 3295 = .ok (.ifCond .ne 15, 3) := by decide +kernel
theorem dL_law_3298 : decode cL_law 3298 = .ok (.aload_n 3, 1) := by decide +kernel
theorem dL_law_3299 : decode cL_law 3299 = .ok (.iconst 0, 1) := by decide +kernel
theorem dL_law_3300 : decode cL_law 3300 = .ok (.laload, 1) := by decide +kernel
theorem dL_law_3301 : decode cL_law 3301 = .ok (.iload 6, 2) := by decide +kernel
theorem dL_law_3303 : decode cL_law 3303 = .ok (.i2l, 1) := by decide +kernel
theorem dL_law_3304 : decode cL_law 3304 = .ok (.lcmp, 1) := by decide +kernel
theorem dL_law_3305 : decode cL_law 3305 = .ok (.ifCond .eq 5, 3) := by decide +kernel
theorem dL_law_3308 : decode cL_law 3308 = .ok (.iconst 0, 1) := by decide +kernel
theorem dL_law_3309 : decode cL_law 3309 = .ok (.ireturn, 1) := by decide +kernel
theorem dL_law_3310 : decode cL_law 3310 = .ok (.goto 728, 3) := by decide +kernel
theorem dL_law_3313 : decode cL_law 3313 = .ok (.aload_n 1, 1) := by decide +kernel
theorem dL_law_3314 : decode cL_law 3314 = .ok (.aload_n 0, 1) := by decide +kernel
theorem dL_law_3315 : decode cL_law 3315 = .ok (.iload 4, 2) := by decide +kernel
theorem dL_law_3317 : decode cL_law 3317 = .ok (.iconst 1, 1) := by decide +kernel
theorem dL_law_3318 : decode cL_law 3318 = .ok (.iadd, 1) := by decide +kernel
theorem dL_law_3319 : decode cL_law 3319 = .ok (.iaload, 1) := by decide +kernel
theorem dL_law_3320 : decode cL_law 3320 = .ok (.aload_n 3, 1) := by decide +kernel
theorem dL_law_3321 : decode cL_law 3321 = .ok (.invokestatic 353, 3) := by decide +kernel
theorem dL_law_3324 : decode cL_law 3324 = .ok (.istore 5, 2) := by decide +kernel
theorem dL_law_3326 : decode cL_law 3326 = .ok (.aload_n 2, 1) := by decide +kernel
theorem dL_law_3327 : decode cL_law 3327 = .ok (.aload_n 0, 1) := by decide +kernel
theorem dL_law_3328 : decode cL_law 3328 = .ok (.iload 4, 2) := by decide +kernel
theorem dL_law_3330 : decode cL_law 3330 = .ok (.iconst 1, 1) := by decide +kernel
theorem dL_law_3331 : decode cL_law 3331 = .ok (.iadd, 1) := by decide +kernel
theorem dL_law_3332 : decode cL_law 3332 = .ok (.iaload, 1) := by decide +kernel
theorem dL_law_3333 : decode cL_law 3333 = .ok (.invokevirtual 355, 3) := by decide +kernel
theorem dL_law_3336 : decode cL_law 3336 = .ok (.istore 6, 2) := by decide +kernel
theorem dL_law_3338 : decode cL_law 3338 = .ok (.aload_n 2, 1) := by decide +kernel
theorem dL_law_3339 : decode cL_law 3339 = .ok (.invokevirtual 204, 3) := by decide +kernel
theorem dL_law_3342 : decode cL_law 3342 = .ok (.iload 5, 2) := by decide +kernel
theorem dL_law_3344 : decode cL_law 3344 = .ok (.if_icmp .eq 5, 3) := by decide +kernel
theorem dL_law_3347 : decode cL_law 3347 = .ok (.iconst 0, 1) := by decide +kernel
theorem dL_law_3348 : decode cL_law 3348 = .ok (.ireturn, 1) := by decide +kernel
theorem dL_law_3349 : decode cL_law 3349 = .ok (.iload 5, 2) := by decide +kernel
theorem dL_law_3351 : decode cL_law 3351 = .ok (.ifCond .ne 15, 3) := by decide +kernel
theorem dL_law_3354 : decode cL_law 3354 = .ok (.aload_n 3, 1) := by decide +kernel
theorem dL_law_3355 : decode cL_law 3355 = .ok (.iconst 0, 1) := by decide +kernel
theorem dL_law_3356 : decode cL_law 3356 = .ok (.laload, 1) := by decide +kernel
theorem dL_law_3357 : decode cL_law 3357 = .ok (.iload 6, 2) := by decide +kernel
theorem dL_law_3359 : decode cL_law 3359 = .ok (.i2l, 1) := by decide +kernel
theorem dL_law_3360 : decode cL_law 3360 = .ok (.lcmp, 1) := by decide +kernel
theorem dL_law_3361 : decode cL_law 3361 = .ok (.ifCond .eq 5, 3) := by decide +kernel
theorem dL_law_3364 : decode cL_law 3364 = .ok (.iconst 0, 1) := by decide +kernel
theorem dL_law_3365 : decode cL_law 3365 = .ok (.ireturn, 1) := by decide +kernel
theorem dL_law_3366 : decode cL_law 3366 = .ok (.goto 672, 3) := by decide +kernel
theorem dL_law_3369 : decode cL_law 3369 = .ok (.aload_n 1, 1) := by decide +kernel
theorem dL_law_3370 : decode cL_law 3370 = .ok (.aload_n 0, 1) := by decide +kernel
theorem dL_law_3371 : decode cL_law 3371 = .ok (.iload 4, 2) := by decide +kernel
theorem dL_law_3373 : decode cL_law 3373 = .ok (.iconst 1, 1) := by decide +kernel
theorem dL_law_3374 : decode cL_law 3374 = .ok (.iadd, 1) := by decide +kernel
theorem dL_law_3375 : decode cL_law 3375 = .ok (.iaload, 1) := by decide +kernel
theorem dL_law_3376 : decode cL_law 3376 = .ok (.aload_n 3, 1) := by decide +kernel
theorem dL_law_3377 : decode cL_law 3377 = .ok (.invokestatic 356, 3) := by decide +kernel
theorem dL_law_3380 : decode cL_law 3380 = .ok (.istore 5, 2) := by decide +kernel
theorem dL_law_3382 : decode cL_law 3382 = .ok (.aload_n 2, 1) := by decide +kernel
theorem dL_law_3383 : decode cL_law 3383 = .ok (.aload_n 0, 1) := by decide +kernel
theorem dL_law_3384 : decode cL_law 3384 = .ok (.iload 4, 2) := by decide +kernel
theorem dL_law_3386 : decode cL_law 3386 = .ok (.iconst 1, 1) := by decide +kernel
theorem dL_law_3387 : decode cL_law 3387 = .ok (.iadd, 1) := by decide +kernel
theorem dL_law_3388 : decode cL_law 3388 = .ok (.iaload, 1) := by decide +kernel
theorem dL_law_3389 : decode cL_law 3389 = .ok (.invokevirtual 358, 3) := by decide +kernel
theorem dL_law_3392 : decode cL_law 3392 = .ok (.istore 6, 2) := by decide +kernel
theorem dL_law_3394 : decode cL_law 3394 = .ok (.aload_n 2, 1) := by decide +kernel
theorem dL_law_3395 : decode cL_law 3395 = .ok (.invokevirtual 204, 3) := by decide +kernel
theorem dL_law_3398 : decode cL_law 3398 = .ok (.iload 5, 2) := by decide +kernel
theorem dL_law_3400 : decode cL_law 3400 = .ok (.if_icmp .eq 5, 3) := by decide +kernel
theorem dL_law_3403 : decode cL_law 3403 = .ok (.iconst 0, 1) := by decide +kernel
theorem dL_law_3404 : decode cL_law 3404 = .ok (.ireturn, 1) := by decide +kernel
theorem dL_law_3405 : decode cL_law 3405 = .ok (.iload 5, 2) := by decide +kernel
theorem dL_law_3407 : decode cL_law 3407 = .ok (.ifCond .ne 15, 3) := by decide +kernel
theorem dL_law_3410 : decode cL_law 3410 = .ok (.aload_n 3, 1) := by decide +kernel
theorem dL_law_3411 : decode cL_law 3411 = .ok (.iconst 0, 1) := by decide +kernel
theorem dL_law_3412 : decode cL_law 3412 = .ok (.laload, 1) := by decide +kernel
theorem dL_law_3413 : decode cL_law 3413 = .ok (.iload 6, 2) := by decide +kernel
theorem dL_law_3415 : decode cL_law 3415 = .ok (.i2l, 1) := by decide +kernel
theorem dL_law_3416 : decode cL_law 3416 = .ok (.lcmp, 1) := by decide +kernel
theorem dL_law_3417 : decode cL_law 3417 = .ok (.ifCond .eq 5, 3) := by decide +kernel
theorem dL_law_3420 : decode cL_law 3420 = .ok (.iconst 0, 1) := by decide +kernel
theorem dL_law_3421 : decode cL_law 3421 = .ok (.ireturn, 1) := by decide +kernel
theorem dL_law_3422 : decode cL_law 3422 = .ok (.goto 616, 3) := by decide +kernel
theorem dL_law_3425 : decode cL_law 3425 = .ok (.aload_n 1, 1) := by decide +kernel
theorem dL_law_3426 : decode cL_law 3426 = .ok (.aload_n 0, 1) := by decide +kernel
theorem dL_law_3427 : decode cL_law 3427 = .ok (.iload 4, 2) := by decide +kernel
theorem dL_law_3429 : decode cL_law 3429 = .ok (.iconst 1, 1) := by decide +kernel
theorem dL_law_3430 : decode cL_law 3430 = .ok (.iadd, 1) := by decide +kernel
theorem dL_law_3431 : decode cL_law 3431 = .ok (.iaload, 1) := by decide +kernel
theorem dL_law_3432 : decode cL_law 3432 = .ok (.aload_n 0, 1) := by decide +kernel
theorem dL_law_3433 : decode cL_law 3433 = .ok (.iload 4, 2) := by decide +kernel
theorem dL_law_3435 : decode cL_law 3435 = .ok (.iconst 2, 1) := by decide +kernel
theorem dL_law_3436 : decode cL_law 3436 = .ok (.iadd, 1) := by decide +kernel
theorem dL_law_3437 : decode cL_law 3437 = .ok (.iaload, 1) := by decide +kernel
theorem dL_law_3438 : decode cL_law 3438 = .ok (.aload_n 0, 1) := by decide +kernel
theorem dL_law_3439 : decode cL_law 3439 = .ok (.iload 4, 2) := by decide +kernel
theorem dL_law_3441 : decode cL_law 3441 = .ok (.iconst 3, 1) := by decide +kernel
theorem dL_law_3442 : decode cL_law 3442 = .ok (.iadd, 1) := by decide +kernel
theorem dL_law_3443 : decode cL_law 3443 = .ok (.iaload, 1) := by decide +kernel
theorem dL_law_3444 : decode cL_law 3444 = .ok (.aload_n 3, 1) := by decide +kernel
theorem dL_law_3445 : decode cL_law 3445 = .ok (.invokestatic 359, 3) := by decide +kernel
theorem dL_law_3448 : decode cL_law 3448 = .ok (.istore 5, 2) := by decide +kernel
theorem dL_law_3450 : decode cL_law 3450 = .ok (.aload_n 2, 1) := by decide +kernel
theorem dL_law_3451 : decode cL_law 3451 = .ok (.aload_n 0, 1) := by decide +kernel
theorem dL_law_3452 : decode cL_law 3452 = .ok (.iload 4, 2) := by decide +kernel
theorem dL_law_3454 : decode cL_law 3454 = .ok (.iconst 1, 1) := by decide +kernel
theorem dL_law_3455 : decode cL_law 3455 = .ok (.iadd, 1) := by decide +kernel
theorem dL_law_3456 : decode cL_law 3456 = .ok (.iaload, 1) := by decide +kernel
theorem dL_law_3457 : decode cL_law 3457 = .ok (.aload_n 0, 1) := by decide +kernel
theorem dL_law_3458 : decode cL_law 3458 = .ok (.iload 4, 2) := by decide +kernel
theorem dL_law_3460 : decode cL_law 3460 = .ok (.iconst 2, 1) := by decide +kernel
theorem dL_law_3461 : decode cL_law 3461 = .ok (.iadd, 1) := by decide +kernel
theorem dL_law_3462 : decode cL_law 3462 = .ok (.iaload, 1) := by decide +kernel
theorem dL_law_3463 : decode cL_law 3463 = .ok (.aload_n 0, 1) := by decide +kernel
theorem dL_law_3464 : decode cL_law 3464 = .ok (.iload 4, 2) := by decide +kernel
theorem dL_law_3466 : decode cL_law 3466 = .ok (.iconst 3, 1) := by decide +kernel
theorem dL_law_3467 : decode cL_law 3467 = .ok (.iadd, 1) := by decide +kernel
theorem dL_law_3468 : decode cL_law 3468 = .ok (.iaload, 1) := by decide +kernel
theorem dL_law_3469 : decode cL_law 3469 = .ok (.invokevirtual 361, 3) := by decide +kernel
theorem dL_law_3472 : decode cL_law 3472 = .ok (.istore 6, 2) := by decide +kernel
theorem dL_law_3474 : decode cL_law 3474 = .ok (.aload_n 2, 1) := by decide +kernel
theorem dL_law_3475 : decode cL_law 3475 = .ok (.invokevirtual 204, 3) := by decide +kernel
theorem dL_law_3478 : decode cL_law 3478 = .ok (.iload 5, 2) := by decide +kernel
theorem dL_law_3480 : decode cL_law 3480 = .ok (.if_icmp .eq 5, 3) := by decide +kernel
theorem dL_law_3483 : decode cL_law 3483 = .ok (.iconst 0, 1) := by decide +kernel
theorem dL_law_3484 : decode cL_law 3484 = .ok (.ireturn, 1) := by decide +kernel
theorem dL_law_3485 : decode cL_law 3485 = .ok (.iload 5, 2) := by decide +kernel
theorem dL_law_3487 : decode cL_law 3487 = .ok (.ifCond .ne 15, 3) := by decide +kernel
theorem dL_law_3490 : decode cL_law 3490 = .ok (.aload_n 3, 1) := by decide +kernel
theorem dL_law_3491 : decode cL_law 3491 = .ok (.iconst 0, 1) := by decide +kernel
theorem dL_law_3492 : decode cL_law 3492 = .ok (.laload, 1) := by decide +kernel
theorem dL_law_3493 : decode cL_law 3493 = .ok (.iload 6, 2) := by decide +kernel
theorem dL_law_3495 : decode cL_law 3495 = .ok (.i2l, 1) := by decide +kernel
theorem dL_law_3496 : decode cL_law 3496 = .ok (.lcmp, 1) := by decide +kernel
theorem dL_law_3497 : decode cL_law 3497 = .ok (.ifCond .eq 5, 3) := by decide +kernel
theorem dL_law_3500 : decode cL_law 3500 = .ok (.iconst 0, 1) := by decide +kernel
theorem dL_law_3501 : decode cL_law 3501 = .ok (.ireturn, 1) := by decide +kernel
theorem dL_law_3502 : decode cL_law 3502 = .ok (.goto 536, 3) := by decide +kernel
theorem dL_law_3505 : decode cL_law 3505 = .ok (.aload_n 1, 1) := by decide +kernel
theorem dL_law_3506 : decode cL_law 3506 = .ok (.aload_n 0, 1) := by decide +kernel
theorem dL_law_3507 : decode cL_law 3507 = .ok (.iload 4, 2) := by decide +kernel
theorem dL_law_3509 : decode cL_law 3509 = .ok (.iconst 1, 1) := by decide +kernel
theorem dL_law_3510 : decode cL_law 3510 = .ok (.iadd, 1) := by decide +kernel
theorem dL_law_3511 : decode cL_law 3511 = .ok (.iaload, 1) := by decide +kernel
theorem dL_law_3512 : decode cL_law 3512 = .ok (.aload_n 0, 1) := by decide +kernel
theorem dL_law_3513 : decode cL_law 3513 = .ok (.iload 4, 2) := by decide +kernel
theorem dL_law_3515 : decode cL_law 3515 = .ok (.iconst 2, 1) := by decide +kernel
theorem dL_law_3516 : decode cL_law 3516 = .ok (.iadd, 1) := by decide +kernel
theorem dL_law_3517 : decode cL_law 3517 = .ok (.iaload, 1) := by decide +kernel
theorem dL_law_3518 : decode cL_law 3518 = .ok (.aload_n 0, 1) := by decide +kernel
theorem dL_law_3519 : decode cL_law 3519 = .ok (.iload 4, 2) := by decide +kernel
theorem dL_law_3521 : decode cL_law 3521 = .ok (.iconst 3, 1) := by decide +kernel
theorem dL_law_3522 : decode cL_law 3522 = .ok (.iadd, 1) := by decide +kernel
theorem dL_law_3523 : decode cL_law 3523 = .ok (.iaload, 1) := by decide +kernel
theorem dL_law_3524 : decode cL_law 3524 = .ok (.aload_n 0, 1) := by decide +kernel
theorem dL_law_3525 : decode cL_law 3525 = .ok (.iload 4, 2) := by decide +kernel
theorem dL_law_3527 : decode cL_law 3527 = .ok (.iconst 4, 1) := by decide +kernel
theorem dL_law_3528 : decode cL_law 3528 = .ok (.iadd, 1) := by decide +kernel
theorem dL_law_3529 : decode cL_law 3529 = .ok (.iaload, 1) := by decide +kernel
theorem dL_law_3530 : decode cL_law 3530 = .ok (.aload_n 3, 1) := by decide +kernel
theorem dL_law_3531 : decode cL_law 3531 = .ok (.invokestatic 362, 3) := by decide +kernel
theorem dL_law_3534 : decode cL_law 3534 = .ok (.istore 5, 2) := by decide +kernel
theorem dL_law_3536 : decode cL_law 3536 = .ok (.aload_n 2, 1) := by decide +kernel
theorem dL_law_3537 : decode cL_law 3537 = .ok (.aload_n 0, 1) := by decide +kernel
theorem dL_law_3538 : decode cL_law 3538 = .ok (.iload 4, 2) := by decide +kernel
theorem dL_law_3540 : decode cL_law 3540 = .ok (.iconst 1, 1) := by decide +kernel
theorem dL_law_3541 : decode cL_law 3541 = .ok (.iadd, 1) := by decide +kernel
theorem dL_law_3542 : decode cL_law 3542 = .ok (.iaload, 1) := by decide +kernel
theorem dL_law_3543 : decode cL_law 3543 = .ok (.aload_n 0, 1) := by decide +kernel
theorem dL_law_3544 : decode cL_law 3544 = .ok (.iload 4, 2) := by decide +kernel
theorem dL_law_3546 : decode cL_law 3546 = .ok (.iconst 2, 1) := by decide +kernel
theorem dL_law_3547 : decode cL_law 3547 = .ok (.iadd, 1) := by decide +kernel
theorem dL_law_3548 : decode cL_law 3548 = .ok (.iaload, 1) := by decide +kernel
theorem dL_law_3549 : decode cL_law 3549 = .ok (.aload_n 0, 1) := by decide +kernel
theorem dL_law_3550 : decode cL_law 3550 = .ok (.iload 4, 2) := by decide +kernel
theorem dL_law_3552 : decode cL_law 3552 = .ok (.iconst 3, 1) := by decide +kernel
theorem dL_law_3553 : decode cL_law 3553 = .ok (.iadd, 1) := by decide +kernel
theorem dL_law_3554 : decode cL_law 3554 = .ok (.iaload, 1) := by decide +kernel
theorem dL_law_3555 : decode cL_law 3555 = .ok (.aload_n 0, 1) := by decide +kernel
theorem dL_law_3556 : decode cL_law 3556 = .ok (.iload 4, 2) := by decide +kernel
theorem dL_law_3558 : decode cL_law 3558 = .ok (.iconst 4, 1) := by decide +kernel
theorem dL_law_3559 : decode cL_law 3559 = .ok (.iadd, 1) := by decide +kernel
theorem dL_law_3560 : decode cL_law 3560 = .ok (.iaload, 1) := by decide +kernel
