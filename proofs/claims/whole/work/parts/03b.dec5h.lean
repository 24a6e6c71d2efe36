theorem dL_law_3131 : decode cL_law 3131 = .ok (.iadd, 1) := by decide +kernel
theorem dL_law_3132 : decode cL_law 3132 = .ok (.iaload, 1) := by decide +kernel
theorem dL_law_3133 : decode cL_law 3133 = .ok (.aload_n 3, 1) := by decide +kernel
theorem dL_law_3134 : decode cL_law 3134 = .ok (.invokestatic 339, 3) := by decide +kernel
theorem dL_law_3137 : decode cL_law 3137 = .ok (.istore 6, 2) := by decide +kernel
theorem dL_law_3139 : decode cL_law 3139 = .ok (.aload_n 2, 1) := by decide +kernel
theorem dL_law_3140 : decode cL_law 3140 = .ok (.aload_n 0, 1) := by decide +kernel
theorem dL_law_3141 : decode cL_law 3141 = .ok (.iload 5, 2) := by decide +kernel
theorem dL_law_3143 : decode cL_law 3143 = .ok (.iconst 1, 1) := by decide +kernel
theorem dL_law_3144 : decode cL_law 3144 = .ok (.iadd, 1) := by decide +kernel
theorem dL_law_3145 : decode cL_law 3145 = .ok (.iaload, 1) := by decide +kernel
theorem dL_law_3146 : decode cL_law 3146 = .ok (.invokevirtual 341, 3) := by decide +kernel
theorem dL_law_3149 : decode cL_law 3149 = .ok (.istore 7, 2) := by decide +kernel
theorem dL_law_3151 : decode cL_law 3151 = .ok (.aload_n 2, 1) := by decide +kernel
theorem dL_law_3152 : decode cL_law 3152 = .ok (.invokevirtual 195, 3) := by decide +kernel
theorem dL_law_3155 : decode cL_law 3155 = .ok (.iload 6, 2) := by decide +kernel
theorem dL_law_3157 : decode cL_law 3157 = .ok (.if_icmp .eq 5, 3) := by decide +kernel
theorem dL_law_3160 : decode cL_law 3160 = .ok (.iconst 0, 1) := by decide +kernel
theorem dL_law_3161 : decode cL_law 3161 = .ok (.ireturn, 1) := by decide +kernel
theorem dL_law_3162 : decode cL_law 3162 = .ok (.iload 6, 2) := by decide +kernel
theorem dL_law_3164 : decode cL_law 3164 = .ok (.ifCond .ne 15, 3) := by decide +kernel
theorem dL_law_3167 : decode cL_law 3167 = .ok (.aload_n 3, 1) := by decide +kernel
theorem dL_law_3168 : decode cL_law 3168 = .ok (.iconst 0, 1) := by decide +kernel
theorem dL_law_3169 : decode cL_law 3169 = .ok (.laload, 1) := by decide +kernel
theorem dL_law_3170 : decode cL_law 3170 = .ok (.iload 7, 2) := by decide +kernel
theorem dL_law_3172 : decode cL_law 3172 = .ok (.i2l, 1) := by decide +kernel
theorem dL_law_3173 : decode cL_law 3173 = .ok (.lcmp, 1) := by decide +kernel
theorem dL_law_3174 : decode cL_law 3174 = .ok (.ifCond .eq 5, 3) := by decide +kernel
theorem dL_law_3177 : decode cL_law 3177 = .ok (.iconst 0, 1) := by decide +kernel
theorem dL_law_3178 : decode cL_law 3178 = .ok (.ireturn, 1) := by decide +kernel
theorem dL_law_3179 : decode cL_law 3179 = .ok (.goto 377, 3) := by decide +kernel
theorem dL_law_3182 : decode cL_law 3182 = .ok (.aload_n 1, 1) := by decide +kernel
theorem dL_law_3183 : decode cL_law 3183 = .ok (.aload_n 0, 1) := by decide +kernel
theorem dL_law_3184 : decode cL_law 3184 = .ok (.iload 5, 2) := by decide +kernel
theorem dL_law_3186 : decode cL_law 3186 = .ok (.iconst 1, 1) := by decide +kernel
theorem dL_law_3187 : decode cL_law 3187 = .ok (.iadd, 1) := by decide +kernel
theorem dL_law_3188 : decode cL_law 3188 = .ok (.iaload, 1) := by decide +kernel
theorem dL_law_3189 : decode cL_law 3189 = .ok (.aload_n 0, 1) := by decide +kernel
theorem dL_law_3190 : decode cL_law 3190 = .ok (.iload 5, 2) := by decide +kernel
theorem dL_law_3192 : decode cL_law 3192 = .ok (.iconst 2, 1) := by decide +kernel
theorem dL_law_3193 : decode cL_law 3193 = .ok (.iadd, 1) := by decide +kernel
theorem dL_law_3194 : decode cL_law 3194 = .ok (.iaload, 1) := by decide +kernel
theorem dL_law_3195 : decode cL_law 3195 = .ok (.aload_n 3, 1) := by decide +kernel
theorem dL_law_3196 : decode cL_law 3196 = .ok (.invokestatic 342, 3) := by decide +kernel
theorem dL_law_3199 : decode cL_law 3199 = .ok (.istore 6, 2) := by decide +kernel
theorem dL_law_3201 : decode cL_law 3201 = .ok (.aload_n 2, 1) := by decide +kernel
theorem dL_law_3202 : decode cL_law 3202 = .ok (.aload_n 0, 1) := by decide +kernel
theorem dL_law_3203 : decode cL_law 3203 = .ok (.iload 5, 2) := by decide +kernel
theorem dL_law_3205 : decode cL_law 3205 = .ok (.iconst 1, 1) := by decide +kernel
theorem dL_law_3206 : decode cL_law 3206 = .ok (.iadd, 1) := by decide +kernel
theorem dL_law_3207 : decode cL_law 3207 = .ok (.iaload, 1) := by decide +kernel
theorem dL_law_3208 : decode cL_law 3208 = .ok (.aload_n 0, 1) := by decide +kernel
theorem dL_law_3209 : decode cL_law 3209 = .ok (.iload 5, 2) := by decide +kernel
theorem dL_law_3211 : decode cL_law 3211 = .ok (.iconst 2, 1) := by decide +kernel
theorem dL_law_3212 : decode cL_law 3212 = .ok (.iadd, 1) := by decide +kernel
theorem dL_law_3213 : decode cL_law 3213 = .ok (.iaload, 1) := by decide +kernel
theorem dL_law_3214 : decode cL_law 3214 = .ok (.invokevirtual 344, 3) := by decide +kernel
theorem dL_law_3217 : decode cL_law 3217 = .ok (.istore 7, 2) := by decide +kernel
theorem dL_law_3219 : decode cL_law 3219 = .ok (.aload_n 2, 1) := by decide +kernel
theorem dL_law_3220 : decode cL_law 3220 = .ok (.invokevirtual 195, 3) := by decide +kernel
theorem dL_law_3223 : decode cL_law 3223 = .ok (.iload 6, 2) := by decide +kernel
theorem dL_law_3225 : decode cL_law 3225 = .ok (.if_icmp .eq 5, 3) := by decide +kernel
theorem dL_law_3228 : decode cL_law 3228 = .ok (.iconst 0, 1) := by decide +kernel
theorem dL_law_3229 : decode cL_law 3229 = .ok (.ireturn, 1) := by decide +kernel
theorem dL_law_3230 : decode cL_law 3230 = .ok (.iload 6, 2) := by decide +kernel
theorem dL_law_3232 : decode cL_law 3232 = .ok (.ifCond .ne 15, 3) := by decide +kernel
theorem dL_law_3235 : decode cL_law 3235 = .ok (.aload_n 3, 1) := by decide +kernel
theorem dL_law_3236 : decode cL_law 3236 = .ok (.iconst 0, 1) := by decide +kernel
theorem dL_law_3237 : decode cL_law 3237 = .ok (.laload, 1) := by decide +kernel
theorem dL_law_3238 : decode cL_law 3238 = .ok (.iload 7, 2) := by decide +kernel
theorem dL_law_3240 : decode cL_law 3240 = .ok (.i2l, 1) := by decide +kernel
theorem dL_law_3241 : decode cL_law 3241 = .ok (.lcmp, 1) := by decide +kernel
theorem dL_law_3242 : decode cL_law 3242 = .ok (.ifCond .eq 5, 3) := by decide +kernel
theorem dL_law_3245 : decode cL_law 3245 = .ok (.iconst 0, 1) := by decide +kernel
theorem dL_law_3246 : decode cL_law 3246 = .ok (.ireturn, 1) := by decide +kernel
theorem dL_law_3247 : decode cL_law 3247 = .ok (.goto 309, 3) := by decide +kernel
theorem dL_law_3250 : decode cL_law 3250 = .ok (.aload_n 1, 1) := by decide +kernel
theorem dL_law_3251 : decode cL_law 3251 = .ok (.aload_n 0, 1) := by decide +kernel
theorem dL_law_3252 : decode cL_law 3252 = .ok (.iload 5, 2) := by decide +kernel
theorem dL_law_3254 : decode cL_law 3254 = .ok (.iconst 1, 1) := by decide +kernel
theorem dL_law_3255 : decode cL_law 3255 = .ok (.iadd, 1) := by decide +kernel
theorem dL_law_3256 : decode cL_law 3256 = .ok (.iaload, 1) := by decide +kernel
theorem dL_law_3257 : decode cL_law 3257 = .ok (.aload_n 0, 1) := by decide +kernel
theorem dL_law_3258 : decode cL_law 3258 = .ok (.iload 5, 2) := by decide +kernel
theorem dL_law_3260 : decode cL_law 3260 = .ok (.iconst 2, 1) := by decide +kernel
theorem dL_law_3261 : decode cL_law 3261 = .ok (.iadd, 1) := by decide +kernel
theorem dL_law_3262 : decode cL_law 3262 = .ok (.iaload, 1) := by decide +kernel
theorem dL_law_3263 : decode cL_law 3263 = .ok (.aload_n 3, 1) := by decide +kernel
theorem dL_law_3264 : decode cL_law 3264 = .ok (.invokestatic 345, 3) := by decide +kernel
theorem dL_law_3267 : decode cL_law 3267 = .ok (.istore 6, 2) := by decide +kernel
theorem dL_law_3269 : decode cL_law 3269 = .ok (.aload_n 2, 1) := by decide +kernel
theorem dL_law_3270 : decode cL_law 3270 = .ok (.aload_n 0, 1) := by decide +kernel
theorem dL_law_3271 : decode cL_law 3271 = .ok (.iload 5, 2) := by decide +kernel
theorem dL_law_3273 : decode cL_law 3273 = .ok (.iconst 1, 1) := by decide +kernel
theorem dL_law_3274 : decode cL_law 3274 = .ok (.iadd, 1) := by decide +kernel
theorem dL_law_3275 : decode cL_law 3275 = .ok (.iaload, 1) := by decide +kernel
theorem dL_law_3276 : decode cL_law 3276 = .ok (.aload_n 0, 1) := by decide +kernel
theorem dL_law_3277 : decode cL_law 3277 = .ok (.iload 5, 2) := by decide +kernel
theorem dL_law_3279 : decode cL_law 3279 = .ok (.iconst 2, 1) := by decide +kernel
theorem dL_law_3280 : decode cL_law 3280 = .ok (.iadd, 1) := by decide +kernel
theorem dL_law_3281 : decode cL_law 3281 = .ok (.iaload, 1) := by decide +kernel
theorem dL_law_3282 : decode cL_law 3282 = .ok (.invokevirtual 347, 3) := by decide +kernel
theorem dL_law_3285 : decode cL_law 3285 = .ok (.istore 7, 2) := by decide +kernel
theorem dL_law_3287 : decode cL_law 3287 = .ok (.aload_n 2, 1) := by decide +kernel
theorem dL_law_3288 : decode cL_law 3288 = .ok (.invokevirtual 195, 3) := by decide +kernel
theorem dL_law_3291 : decode cL_law 3291 = .ok (.iload 6, 2) := by decide +kernel
theorem dL_law_3293 : decode cL_law 3293 = .ok (.if_icmp .eq 5, 3) := by decide +kernel
theorem dL_law_3296 : decode cL_law 3296 = .ok (.iconst 0, 1) := by decide +kernel
theorem dL_law_3297 : decode cL_law 3297 = .ok (.ireturn, 1) := by decide +kernel
theorem dL_law_3298 : decode cL_law 3298 = .ok (.iload 6, 2) := by decide +kernel
theorem dL_law_3300 : decode cL_law 3300 = .ok (.ifCond .ne 15, 3) := by decide +kernel
theorem dL_law_3303 : decode cL_law 3303 = .ok (.aload_n 3, 1) := by decide +kernel
theorem dL_law_3304 : decode cL_law 3304 = .ok (.iconst 0, 1) := by decide +kernel
theorem dL_law_3305 : decode cL_law 3305 = .ok (.laload, 1) := by decide +kernel
theorem dL_law_3306 : decode cL_law 3306 = .ok (.iload 7, 2) := by decide +kernel
theorem dL_law_3308 : decode cL_law 3308 = .ok (.i2l, 1) := by decide +kernel
theorem dL_law_3309 : decode cL_law 3309 = .ok (.lcmp, 1) := by decide +kernel
theorem dL_law_3310 : decode cL_law 3310 = .ok (.ifCond .eq 5, 3) := by decide +kernel
theorem dL_law_3313 : decode cL_law 3313 = .ok (.iconst 0, 1) := by decide +kernel
theorem dL_law_3314 : decode cL_law 3314 = .ok (.ireturn, 1) := by decide +kernel
theorem dL_law_3315 : decode cL_law 3315 = .ok (.goto 241, 3) := by decide +kernel
theorem dL_law_3318 : decode cL_law 3318 = .ok (.aload_n 1, 1) := by decide +kernel
theorem dL_law_3319 : decode cL_law 3319 = .ok (.aload_n 0, 1) := by decide +kernel
theorem dL_law_3320 : decode cL_law 3320 = .ok (.iload 5, 2) := by decide +kernel
theorem dL_law_3322 : decode cL_law 3322 = .ok (.iconst 1, 1) := by decide +kernel
theorem dL_law_3323 : decode cL_law 3323 = .ok (.iadd, 1) := by decide +kernel
theorem dL_law_3324 : decode cL_law 3324 = .ok (.iaload, 1) := by decide +kernel
theorem dL_law_3325 : decode cL_law 3325 = .ok (.aload_n 3, 1) := by decide +kernel
theorem dL_law_3326 : decode cL_law 3326 = .ok (.invokestatic 348, 3) := by decide +kernel
theorem dL_law_3329 : decode cL_law 3329 = .ok (.istore 6, 2) := by decide +kernel
theorem dL_law_3331 : decode cL_law 3331 = .ok (.aload_n 2, 1) := by decide +kernel
theorem dL_law_3332 : decode cL_law 3332 = .ok (.aload_n 0, 1) := by decide +kernel
theorem dL_law_3333 : decode cL_law 3333 = .ok (.iload 5, 2) := by decide +kernel
theorem dL_law_3335 : decode cL_law 3335 = .ok (.iconst 1, 1) := by decide +kernel
theorem dL_law_3336 : decode cL_law 3336 = .ok (.iadd, 1) := by decide +kernel
theorem dL_law_3337 : decode cL_law 3337 = .ok (.iaload, 1) := by decide +kernel
theorem dL_law_3338 : decode cL_law 3338 = .ok (.invokevirtual 350, 3) := by decide +kernel
theorem dL_law_3341 : decode cL_law 3341 = .ok (.istore 7, 2) := by decide +kernel
theorem dL_law_3343 : decode cL_law 3343 = .ok (.aload_n 2, 1) := by decide +kernel
theorem dL_law_3344 : decode cL_law 3344 = .ok (.invokevirtual 195, 3) := by decide +kernel
theorem dL_law_3347 : decode cL_law 3347 = .ok (.iload 6, 2) := by decide +kernel
theorem dL_law_3349 : decode cL_law 3349 = .ok (.if_icmp .eq 5, 3) := by decide +kernel
theorem dL_law_3352 : decode cL_law 3352 = .ok (.iconst 0, 1) := by decide +kernel
theorem dL_law_3353 : decode cL_law 3353 = .ok (.ireturn, 1) := by decide +kernel
theorem dL_law_3354 : decode cL_law 3354 = .ok (.iload 6, 2) := by decide +kernel
theorem dL_law_3356 : decode cL_law 3356 = .ok (.ifCond .ne 15, 3) := by decide +kernel
theorem dL_law_3359 : decode cL_law 3359 = .ok (.aload_n 3, 1) := by decide +kernel
theorem dL_law_3360 : decode cL_law 3360 = .ok (.iconst 0, 1) := by decide +kernel
theorem dL_law_3361 : decode cL_law 3361 = .ok (.laload, 1) := by decide +kernel
theorem dL_law_3362 : decode cL_law 3362 = .ok (.iload 7, 2) := by decide +kernel
theorem dL_law_3364 : decode cL_law 3364 = .ok (.i2l, 1) := by decide +kernel
theorem dL_law_3365 : decode cL_law 3365 = .ok (.lcmp, 1) := by decide +kernel
theorem dL_law_3366 : decode cL_law 3366 = .ok (.ifCond .eq 5, 3) := by decide +kernel
theorem dL_law_3369 : decode cL_law 3369 = .ok (.iconst 0, 1) := by decide +kernel
theorem dL_law_3370 : decode cL_law 3370 = .ok (.ireturn, 1) := by decide +kernel
theorem dL_law_3371 : decode cL_law 3371 = .ok (.goto 185, 3) := by decide +kernel
theorem dL_law_3374 : decode cL_law 3374 = .ok (.aload_n 1, 1) := by decide +kernel
theorem dL_law_3375 : decode cL_law 3375 = .ok (.aload_n 0, 1) := by decide +kernel
theorem dL_law_3376 : decode cL_law 3376 = .ok (.iload 5, 2) := by decide +kernel
theorem dL_law_3378 : decode cL_law 3378 = .ok (.iconst 1, 1) := by decide +kernel
theorem dL_law_3379 : decode cL_law 3379 = .ok (.iadd, 1) := by decide +kernel
theorem dL_law_3380 : decode cL_law 3380 = .ok (.iaload, 1) := by decide +kernel
theorem dL_law_3381 : decode cL_law 3381 = .ok (.aload 4, 2) := by decide +kernel
theorem dL_law_3383 : decode cL_law 3383 = .ok (.invokestatic 351, 3) := by decide +kernel
theorem dL_law_3386 : decode cL_law 3386 = .ok (.istore 6, 2) := by decide +kernel
theorem dL_law_3388 : decode cL_law 3388 = .ok (.aload_n 2, 1) := by decide +kernel
theorem dL_law_3389 : decode cL_law 3389 = .ok (.aload_n 0, 1) := by decide +kernel
theorem dL_law_3390 : decode cL_law 3390 = .ok (.iload 5, 2) := by decide +kernel
theorem dL_law_3392 : decode cL_law 3392 = .ok (.iconst 1, 1) := by decide +kernel
theorem dL_law_3393 : decode cL_law 3393 = .ok (.iadd, 1) := by decide +kernel
theorem dL_law_3394 : decode cL_law 3394 = .ok (.iaload, 1) := by decide +kernel
theorem dL_law_3395 : decode cL_law 3395 = .ok (.invokevirtual 354, 3) := by decide +kernel
theorem dL_law_3398 : decode cL_law 3398 = .ok (.fstore 7, 2) := by decide +kernel
theorem dL_law_3400 : decode cL_law 3400 = .ok (.aload_n 2, 1) := by decide +kernel
theorem dL_law_3401 : decode cL_law 3401 = .ok (.invokevirtual 195, 3) := by decide +kernel
theorem dL_law_3404 : decode cL_law 3404 = .ok (.iload 6, 2) := by decide +kernel
theorem dL_law_3406 : decode cL_law 3406 = .ok (.if_icmp .eq 5, 3) := by decide +kernel
theorem dL_law_3409 : decode cL_law 3409 = .ok (.iconst 0, 1) := by decide +kernel
theorem dL_law_3410 : decode cL_law 3410 = .ok (.ireturn, 1) := by decide +kernel
theorem dL_law_3411 : decode cL_law 3411 = .ok (.iload 6, 2) := by decide +kernel
theorem dL_law_3413 : decode cL_law 3413 = .ok (.ifCond .ne 36, 3) := by decide +kernel
theorem dL_law_3416 : decode cL_law 3416 = .ok (.aload 4, 2) := by decide +kernel
theorem dL_law_3418 : decode cL_law 3418 = .ok (.iconst 0, 1) := by decide +kernel
theorem dL_law_3419 : decode cL_law 3419 = .ok (.daload, 1) := by decide +kernel
theorem dL_law_3420 : decode cL_law 3420 = .ok (.fload 7, 2) := by decide +kernel
theorem dL_law_3422 : decode cL_law 3422 = .ok (.f2d, 1) := by decide +kernel
theorem dL_law_3423 : decode cL_law 3423 = .ok (.dcmp .l, 1) := by decide +kernel
theorem dL_law_3424 : decode cL_law 3424 = .ok (.ifCond .eq 25, 3) := by decide +kernel
theorem dL_law_3427 : decode cL_law 3427 = .ok (.aload 4, 2) := by decide +kernel
theorem dL_law_3429 : decode cL_law 3429 = .ok (.iconst 0, 1) := by decide +kernel
theorem dL_law_3430 : decode cL_law 3430 = .ok (.daload, 1) := by decide +kernel
theorem dL_law_3431 : decode cL_law 3431 = .ok (.aload 4, 2) := by decide +kernel
theorem dL_law_3433 : decode cL_law 3433 = .ok (.iconst 0, 1) := by decide +kernel
theorem dL_law_3434 : decode cL_law 3434 = .ok (.daload, 1) := by decide +kernel
theorem dL_law_3435 : decode cL_law 3435 = .ok (.dcmp .l, 1) := by decide +kernel
theorem dL_law_3436 : decode cL_law 3436 = .ok (.ifCond .eq 11, 3) := by decide +kernel
theorem dL_law_3439 : decode cL_law 3439 = .ok (.fload 7, 2) := by decide +kernel
theorem dL_law_3441 : decode cL_law 3441 = .ok (.fload 7, 2) := by decide +kernel
theorem dL_law_3443 : decode cL_law 3443 = .ok (.fcmp .l, 1) := by decide +kernel
theorem dL_law_3444 : decode cL_law 3444 = .ok (.ifCond .ne 5, 3) := by decide +kernel
theorem dL_law_3447 : decode cL_law 3447 = .ok (.iconst 0, 1) := by decide +kernel
theorem dL_law_3448 : decode cL_law 3448 = .ok (.ireturn, 1) := by decide +kernel
theorem dL_law_3449 : decode cL_law 3449 = .ok (.goto 107, 3) := by decide +kernel
theorem dL_law_3452 : decode cL_law 3452 = .ok (.aload_n 1, 1) := by decide +kernel
theorem dL_law_3453 : decode cL_law 3453 = .ok (.aload_n 0, 1) := by decide +kernel
theorem dL_law_3454 : decode cL_law 3454 = .ok (.iload 5, 2) := by decide +kernel
theorem dL_law_3456 : decode cL_law 3456 = .ok (.iconst 1, 1) := by decide +kernel
theorem dL_law_3457 : decode cL_law 3457 = .ok (.iadd, 1) := by decide +kernel
theorem dL_law_3458 : decode cL_law 3458 = .ok (.iaload, 1) := by decide +kernel
theorem dL_law_3459 : decode cL_law 3459 = .ok (.aload 4, 2) := by decide +kernel
theorem dL_law_3461 : decode cL_law 3461 = .ok (.invokestatic 355, 3) := by decide +kernel
theorem dL_law_3464 : decode cL_law 3464 = .ok (.istore 6, 2) := by decide +kernel
theorem dL_law_3466 : decode cL_law 3466 = .ok (.aload_n 2, 1) := by decide +kernel
theorem dL_law_3467 : decode cL_law 3467 = .ok (.aload_n 0, 1) := by decide +kernel
theorem dL_law_3468 : decode cL_law 3468 = .ok (.iload 5, 2) := by decide +kernel
theorem dL_law_3470 : decode cL_law 3470 = .ok (.iconst 1, 1) := by decide +kernel
theorem dL_law_3471 : decode cL_law 3471 = .ok (.iadd, 1) := by decide +kernel
theorem dL_law_3472 : decode cL_law 3472 = .ok (.iaload, 1) := by decide +kernel
theorem dL_law_3473 : decode cL_law 3473 = .ok (.invokevirtual 357, 3) := by decide +kernel
theorem dL_law_3476 : decode cL_law 3476 = .ok (.dstore 7, 2) := by decide +kernel
theorem dL_law_3478 : decode cL_law 3478 = .ok (.aload_n 2, 1) := by decide +kernel
theorem dL_law_3479 : decode cL_law 3479 = .ok (.invokevirtual 195, 3) := by decide +kernel
theorem dL_law_3482 : decode cL_law 3482 = .ok (.iload 6, 2) := by decide +kernel
theorem dL_law_3484 : decode cL_law 3484 = .ok (.if_icmp .eq 5, 3) := by decide +kernel
theorem dL_law_3487 : decode cL_law 3487 = .ok (.iconst 0, 1) := by decide +kernel
theorem dL_law_3488 : decode cL_law 3488 = .ok (.ireturn, 1) := by decide +kernel
theorem dL_law_3489 : decode cL_law 3489 = .ok (.iload 6, 2) := by decide +kernel
theorem dL_law_3491 : decode cL_law 3491 = .ok (.ifCond .ne 35, 3) := by decide +kernel
theorem dL_law_3494 : decode cL_law 3494 = .ok (.aload 4, 2) := by decide +kernel
theorem dL_law_3496 : decode cL_law 3496 = .ok (.iconst 0, 1) := by decide +kernel
theorem dL_law_3497 : decode cL_law 3497 = .ok (.daload, 1) := by decide +kernel
theorem dL_law_3498 : decode cL_law 3498 = .ok (.dload 7, 2) := by decide +kernel
theorem dL_law_3500 : decode cL_law 3500 = .ok (.dcmp .l, 1) := by decide +kernel
theorem dL_law_3501 : decode cL_law 3501 = .ok (.ifCond .eq 25, 3) := by decide +kernel
theorem dL_law_3504 : decode cL_law 3504 = .ok (.aload 4, 2) := by decide +kernel
theorem dL_law_3506 : decode cL_law 3506 = .ok (.iconst 0, 1) := by decide +kernel
theorem dL_law_3507 : decode cL_law 3507 = .ok (.daload, 1) := by decide +kernel
theorem dL_law_3508 : decode cL_law 3508 = .ok (.aload 4, 2) := by decide +kernel
theorem dL_law_3510 : decode cL_law 3510 = .ok (.iconst 0, 1) := by decide +kernel
theorem dL_law_3511 : decode cL_law 3511 = .ok (.daload, 1) := by decide +kernel
theorem dL_law_3512 : decode cL_law 3512 = .ok (.dcmp .l, 1) := by decide +kernel
theorem dL_law_3513 : decode cL_law 3513 = .ok (.ifCond .eq 11, 3) := by decide +kernel
theorem dL_law_3516 : decode cL_law 3516 = .ok (.dload 7, 2) := by decide +kernel
theorem dL_law_3518 : decode cL_law 3518 = .ok (.dload 7, 2) := by decide +kernel
theorem dL_law_3520 : decode cL_law 3520 = .ok (.dcmp .l, 1) := by decide +kernel
theorem dL_law_3521 : decode cL_law 3521 = .ok (.ifCond .ne 5, 3) := by decide +kernel
theorem dL_law_3524 : decode cL_law 3524 = .ok (.iconst 0, 1) := by decide +kernel
theorem dL_law_3525 : decode cL_law 3525 = .ok (.ireturn, 1) := by decide +kernel
theorem dL_law_3526 : decode cL_law 3526 = .ok (.goto 30, 3) := by decide +kernel
theorem dL_law_3529 : decode cL_law 3529 = .ok (.aload_n 1, 1) := by decide +kernel
theorem dL_law_3530 : decode cL_law 3530 = .ok (.invokevirtual 358, 3) := by decide +kernel
theorem dL_law_3533 : decode cL_law 3533 = .ok (.aload_n 2, 1) := by decide +kernel
theorem dL_law_3534 : decode cL_law 3534 = .ok (.invokevirtual 362, 3) := by decide +kernel
theorem dL_law_3537 : decode cL_law 3537 = .ok (.lcmp, 1) := by decide +kernel
theorem dL_law_3538 : decode cL_law 3538 = .ok (.ifCond .eq 18, 3) := by decide +kernel
theorem dL_law_3541 : decode cL_law 3541 = .ok (.iconst 0, 1) := by decide +kernel
theorem dL_law_3542 : decode cL_law 3542 = .ok (.ireturn, 1) := by decide +kernel
theorem dL_law_3543 : decode cL_law 3543 = .ok (.aload_n 1, 1) := by decide +kernel
theorem dL_law_3544 : decode cL_law 3544 = .ok (.invokevirtual 363, 3) := by decide +kernel
theorem dL_law_3547 : decode cL_law 3547 = .ok (.aload_n 2, 1) := by decide +kernel
theorem dL_law_3548 : decode cL_law 3548 = .ok (.invokevirtual 367, 3) := by decide +kernel
theorem dL_law_3551 : decode cL_law 3551 = .ok (.if_icmp .eq 5, 3) := by decide +kernel
theorem dL_law_3554 : decode cL_law 3554 = .ok (.iconst 0, 1) := by decide +kernel
theorem dL_law_3555 : decode cL_law 3555 = .ok (.ireturn, 1) := by decide +kernel
theorem dL_law_3556 : decode cL_law 3556 = .ok (.iinc 5 10, 3) := by decide +kernel
theorem dL_law_3559 : decode cL_law 3559 = .ok (.goto (-3531), 3) := by decide +kernel
theorem dL_law_3562 : decode cL_law 3562 = .ok (.iconst 1, 1) := by decide +kernel
theorem dL_law_3563 : decode cL_law 3563 = .ok (.ireturn, 1) := by decide +kernel
