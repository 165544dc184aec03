/-! areAlike -/
def kb_6_areAlike_4 : List zI := [(.iload_n 3, 1, 0, 0), (.bipush 9, 2, 0, 0), (.if_icmp .ge 32, 3, 39, 0)]
theorem kd_6_areAlike_4 : zdec md_6_areAlike 4 kb_6_areAlike_4 = true := by decide +kernel
def kb_6_areAlike_10 : List zI := [(.iload_n 2, 1, 0, 0), (.ifCond .eq 20, 3, 31, 0)]
theorem kd_6_areAlike_10 : zdec md_6_areAlike 10 kb_6_areAlike_10 = true := by decide +kernel
def kb_6_areAlike_14 : List zI := [(.aload_n 0, 1, 0, 0), (.iload_n 3, 1, 0, 0)]
theorem kd_6_areAlike_14 : zdec md_6_areAlike 14 kb_6_areAlike_14 = true := by decide +kernel
theorem kr_6_areAlike_16 : decode md_6_areAlike.2.1 16 = .ok (.invokevirtual 29, 3) := by decide +kernel
def kb_6_areAlike_19 : List zI := [(.aload_n 1, 1, 0, 0), (.iload_n 3, 1, 0, 0)]
theorem kd_6_areAlike_19 : zdec md_6_areAlike 19 kb_6_areAlike_19 = true := by decide +kernel
theorem kr_6_areAlike_21 : decode md_6_areAlike.2.1 21 = .ok (.invokevirtual 29, 3) := by decide +kernel
theorem kr_6_areAlike_24 : decode md_6_areAlike.2.1 24 = .ok (.if_icmp .ne 7, 3) := by decide +kernel
def kb_6_areAlike_27 : List zI := [(.iconst 1, 1, 0, 0), (.goto 4, 3, 32, 0)]
theorem kd_6_areAlike_27 : zdec md_6_areAlike 27 kb_6_areAlike_27 = true := by decide +kernel
def kb_6_areAlike_32 : List zI := [(.istore_n 2, 1, 0, 0), (.iinc 3 1, 3, 0, 0), (.goto (-32), 3, 4, 0)]
theorem kd_6_areAlike_32 : zdec md_6_areAlike 32 kb_6_areAlike_32 = true := by decide +kernel
def kb_6_areAlike_53 : List zI := [(.iload 4, 2, 0, 0), (.bipush 6, 2, 0, 0), (.if_icmp .ge 63, 3, 120, 0)]
theorem kd_6_areAlike_53 : zdec md_6_areAlike 53 kb_6_areAlike_53 = true := by decide +kernel
def kb_6_areAlike_60 : List zI := [(.iload_n 2, 1, 0, 0), (.ifCond .eq 51, 3, 112, 0)]
theorem kd_6_areAlike_60 : zdec md_6_areAlike 60 kb_6_areAlike_60 = true := by decide +kernel
def kb_6_areAlike_64 : List zI := [(.iload 4, 2, 0, 0), (.iconst 1, 1, 0, 0), (.if_icmp .ne 24, 3, 91, 0)]
theorem kd_6_areAlike_64 : zdec md_6_areAlike 64 kb_6_areAlike_64 = true := by decide +kernel
def kb_6_areAlike_91 : List zI := [(.aload_n 0, 1, 0, 0), (.iload_n 3, 1, 0, 0), (.iload 4, 2, 0, 0)]
theorem kd_6_areAlike_91 : zdec md_6_areAlike 91 kb_6_areAlike_91 = true := by decide +kernel
theorem kr_6_areAlike_95 : decode md_6_areAlike.2.1 95 = .ok (.invokevirtual 67, 3) := by decide +kernel
def kb_6_areAlike_98 : List zI := [(.aload_n 1, 1, 0, 0), (.iload_n 3, 1, 0, 0), (.iload 4, 2, 0, 0)]
theorem kd_6_areAlike_98 : zdec md_6_areAlike 98 kb_6_areAlike_98 = true := by decide +kernel
theorem kr_6_areAlike_102 : decode md_6_areAlike.2.1 102 = .ok (.invokevirtual 67, 3) := by decide +kernel
theorem kr_6_areAlike_105 : decode md_6_areAlike.2.1 105 = .ok (.if_icmp .ne 7, 3) := by decide +kernel
def kb_6_areAlike_108 : List zI := [(.iconst 1, 1, 0, 0), (.goto 4, 3, 113, 0)]
theorem kd_6_areAlike_108 : zdec md_6_areAlike 108 kb_6_areAlike_108 = true := by decide +kernel
def kb_6_areAlike_113 : List zI := [(.istore_n 2, 1, 0, 0), (.iinc 4 1, 3, 0, 0), (.goto (-64), 3, 53, 0)]
theorem kd_6_areAlike_113 : zdec md_6_areAlike 113 kb_6_areAlike_113 = true := by decide +kernel
def kb_6_areAlike_70 : List zI := [(.aload_n 0, 1, 0, 0), (.iload_n 3, 1, 0, 0), (.iconst 1, 1, 0, 0)]
theorem kd_6_areAlike_70 : zdec md_6_areAlike 70 kb_6_areAlike_70 = true := by decide +kernel
theorem kr_6_areAlike_73 : decode md_6_areAlike.2.1 73 = .ok (.invokevirtual 67, 3) := by decide +kernel
def kb_6_areAlike_76 : List zI := [(.bipush 9, 2, 0, 0), (.aload_n 1, 1, 0, 0), (.iload_n 3, 1, 0, 0), (.iconst 1, 1, 0, 0)]
theorem kd_6_areAlike_76 : zdec md_6_areAlike 76 kb_6_areAlike_76 = true := by decide +kernel
theorem kr_6_areAlike_81 : decode md_6_areAlike.2.1 81 = .ok (.invokevirtual 67, 3) := by decide +kernel
def kb_6_areAlike_84 : List zI := [(.isub, 1, 0, 0)]
theorem kd_6_areAlike_84 : zdec md_6_areAlike 84 kb_6_areAlike_84 = true := by decide +kernel
theorem kr_6_areAlike_85 : decode md_6_areAlike.2.1 85 = .ok (.if_icmp .ne 27, 3) := by decide +kernel
def kb_6_areAlike_88 : List zI := [(.goto 20, 3, 108, 0)]
theorem kd_6_areAlike_88 : zdec md_6_areAlike 88 kb_6_areAlike_88 = true := by decide +kernel
def kb_6_areAlike_41 : List zI := [(.iload_n 3, 1, 0, 0), (.aload_n 0, 1, 0, 0), (.iconst 2, 1, 0, 0)]
theorem kd_6_areAlike_41 : zdec md_6_areAlike 41 kb_6_areAlike_41 = true := by decide +kernel
theorem kr_6_areAlike_44 : decode md_6_areAlike.2.1 44 = .ok (.invokevirtual 29, 3) := by decide +kernel
def kb_6_areAlike_47 : List zI := [(.if_icmp .ge 102, 3, 149, 0)]
theorem kd_6_areAlike_47 : zdec md_6_areAlike 47 kb_6_areAlike_47 = true := by decide +kernel
def kb_6_areAlike_50 : List zI := [(.iconst 0, 1, 0, 0), (.istore 4, 2, 0, 0)]
theorem kd_6_areAlike_50 : zdec md_6_areAlike 50 kb_6_areAlike_50 = true := by decide +kernel
def kb_6_areAlike_120 : List zI := [(.iload_n 2, 1, 0, 0), (.ifCond .eq 20, 3, 141, 0)]
theorem kd_6_areAlike_120 : zdec md_6_areAlike 120 kb_6_areAlike_120 = true := by decide +kernel
def kb_6_areAlike_124 : List zI := [(.aload_n 0, 1, 0, 0), (.iload_n 3, 1, 0, 0)]
theorem kd_6_areAlike_124 : zdec md_6_areAlike 124 kb_6_areAlike_124 = true := by decide +kernel
theorem kr_6_areAlike_126 : decode md_6_areAlike.2.1 126 = .ok (.invokevirtual 94, 3) := by decide +kernel
def kb_6_areAlike_129 : List zI := [(.aload_n 1, 1, 0, 0), (.iload_n 3, 1, 0, 0)]
theorem kd_6_areAlike_129 : zdec md_6_areAlike 129 kb_6_areAlike_129 = true := by decide +kernel
theorem kr_6_areAlike_131 : decode md_6_areAlike.2.1 131 = .ok (.invokevirtual 94, 3) := by decide +kernel
theorem kr_6_areAlike_134 : decode md_6_areAlike.2.1 134 = .ok (.if_icmp .ne 7, 3) := by decide +kernel
def kb_6_areAlike_137 : List zI := [(.iconst 1, 1, 0, 0), (.goto 4, 3, 142, 0)]
theorem kd_6_areAlike_137 : zdec md_6_areAlike 137 kb_6_areAlike_137 = true := by decide +kernel
def kb_6_areAlike_142 : List zI := [(.istore_n 2, 1, 0, 0), (.iinc 3 1, 3, 0, 0), (.goto (-105), 3, 41, 0)]
theorem kd_6_areAlike_142 : zdec md_6_areAlike 142 kb_6_areAlike_142 = true := by decide +kernel
def kb_6_areAlike_163 : List zI := [(.iload 4, 2, 0, 0), (.iconst 4, 1, 0, 0), (.if_icmp .ge 36, 3, 202, 0)]
theorem kd_6_areAlike_163 : zdec md_6_areAlike 163 kb_6_areAlike_163 = true := by decide +kernel
def kb_6_areAlike_169 : List zI := [(.iload_n 2, 1, 0, 0), (.ifCond .eq 24, 3, 194, 0)]
theorem kd_6_areAlike_169 : zdec md_6_areAlike 169 kb_6_areAlike_169 = true := by decide +kernel
def kb_6_areAlike_173 : List zI := [(.aload_n 0, 1, 0, 0), (.iload_n 3, 1, 0, 0), (.iload 4, 2, 0, 0)]
theorem kd_6_areAlike_173 : zdec md_6_areAlike 173 kb_6_areAlike_173 = true := by decide +kernel
theorem kr_6_areAlike_177 : decode md_6_areAlike.2.1 177 = .ok (.invokevirtual 36, 3) := by decide +kernel
def kb_6_areAlike_180 : List zI := [(.aload_n 1, 1, 0, 0), (.iload_n 3, 1, 0, 0), (.iload 4, 2, 0, 0)]
theorem kd_6_areAlike_180 : zdec md_6_areAlike 180 kb_6_areAlike_180 = true := by decide +kernel
theorem kr_6_areAlike_184 : decode md_6_areAlike.2.1 184 = .ok (.invokevirtual 36, 3) := by decide +kernel
theorem kr_6_areAlike_187 : decode md_6_areAlike.2.1 187 = .ok (.if_icmp .ne 7, 3) := by decide +kernel
def kb_6_areAlike_190 : List zI := [(.iconst 1, 1, 0, 0), (.goto 4, 3, 195, 0)]
theorem kd_6_areAlike_190 : zdec md_6_areAlike 190 kb_6_areAlike_190 = true := by decide +kernel
def kb_6_areAlike_195 : List zI := [(.istore_n 2, 1, 0, 0), (.iinc 4 1, 3, 0, 0), (.goto (-36), 3, 163, 0)]
theorem kd_6_areAlike_195 : zdec md_6_areAlike 195 kb_6_areAlike_195 = true := by decide +kernel
def kb_6_areAlike_205 : List zI := [(.iload 4, 2, 0, 0), (.bipush 10, 2, 0, 0), (.if_icmp .ge 61, 3, 270, 0)]
theorem kd_6_areAlike_205 : zdec md_6_areAlike 205 kb_6_areAlike_205 = true := by decide +kernel
def kb_6_areAlike_212 : List zI := [(.aload_n 0, 1, 0, 0), (.iload_n 3, 1, 0, 0), (.iload_n 3, 1, 0, 0), (.bipush 6, 2, 0, 0), (.irem, 1, 0, 0), (.iload 4, 2, 0, 0)]
theorem kd_6_areAlike_212 : zdec md_6_areAlike 212 kb_6_areAlike_212 = true := by decide +kernel
theorem kr_6_areAlike_220 : decode md_6_areAlike.2.1 220 = .ok (.invokevirtual 97, 3) := by decide +kernel
def kb_6_areAlike_223 : List zI := [(.istore 5, 2, 0, 0), (.iload_n 2, 1, 0, 0), (.ifCond .eq 36, 3, 262, 0)]
theorem kd_6_areAlike_223 : zdec md_6_areAlike 223 kb_6_areAlike_223 = true := by decide +kernel
def kb_6_areAlike_229 : List zI := [(.aload_n 1, 1, 0, 0), (.iload_n 3, 1, 0, 0), (.iload_n 3, 1, 0, 0), (.bipush 6, 2, 0, 0), (.irem, 1, 0, 0), (.iload 4, 2, 0, 0)]
theorem kd_6_areAlike_229 : zdec md_6_areAlike 229 kb_6_areAlike_229 = true := by decide +kernel
theorem kr_6_areAlike_237 : decode md_6_areAlike.2.1 237 = .ok (.invokevirtual 97, 3) := by decide +kernel
def kb_6_areAlike_240 : List zI := [(.iload 5, 2, 0, 0), (.ifCond .ge 8, 3, 250, 0)]
theorem kd_6_areAlike_240 : zdec md_6_areAlike 240 kb_6_areAlike_240 = true := by decide +kernel
def kb_6_areAlike_250 : List zI := [(.iload 5, 2, 0, 0)]
theorem kd_6_areAlike_250 : zdec md_6_areAlike 250 kb_6_areAlike_250 = true := by decide +kernel
theorem kr_6_areAlike_252 : decode md_6_areAlike.2.1 252 = .ok (.invokestatic 54, 3) := by decide +kernel
theorem kr_6_areAlike_255 : decode md_6_areAlike.2.1 255 = .ok (.if_icmp .ne 7, 3) := by decide +kernel
def kb_6_areAlike_258 : List zI := [(.iconst 1, 1, 0, 0), (.goto 4, 3, 263, 0)]
theorem kd_6_areAlike_258 : zdec md_6_areAlike 258 kb_6_areAlike_258 = true := by decide +kernel
def kb_6_areAlike_263 : List zI := [(.istore_n 2, 1, 0, 0), (.iinc 4 1, 3, 0, 0), (.goto (-62), 3, 205, 0)]
theorem kd_6_areAlike_263 : zdec md_6_areAlike 263 kb_6_areAlike_263 = true := by decide +kernel
def kb_6_areAlike_245 : List zI := [(.iload 5, 2, 0, 0), (.goto 8, 3, 255, 0)]
theorem kd_6_areAlike_245 : zdec md_6_areAlike 245 kb_6_areAlike_245 = true := by decide +kernel
def kb_6_areAlike_151 : List zI := [(.iload_n 3, 1, 0, 0), (.aload_n 0, 1, 0, 0), (.iconst 0, 1, 0, 0)]
theorem kd_6_areAlike_151 : zdec md_6_areAlike 151 kb_6_areAlike_151 = true := by decide +kernel
theorem kr_6_areAlike_154 : decode md_6_areAlike.2.1 154 = .ok (.invokevirtual 29, 3) := by decide +kernel
def kb_6_areAlike_157 : List zI := [(.if_icmp .ge 119, 3, 276, 0)]
theorem kd_6_areAlike_157 : zdec md_6_areAlike 157 kb_6_areAlike_157 = true := by decide +kernel
def kb_6_areAlike_160 : List zI := [(.iconst 0, 1, 0, 0), (.istore 4, 2, 0, 0)]
theorem kd_6_areAlike_160 : zdec md_6_areAlike 160 kb_6_areAlike_160 = true := by decide +kernel
def kb_6_areAlike_202 : List zI := [(.iconst 0, 1, 0, 0), (.istore 4, 2, 0, 0)]
theorem kd_6_areAlike_202 : zdec md_6_areAlike 202 kb_6_areAlike_202 = true := by decide +kernel
def kb_6_areAlike_270 : List zI := [(.iinc 3 1, 3, 0, 0), (.goto (-122), 3, 151, 0)]
theorem kd_6_areAlike_270 : zdec md_6_areAlike 270 kb_6_areAlike_270 = true := by decide +kernel
def kb_6_areAlike_287 : List zI := [(.iload 4, 2, 0, 0), (.bipush 6, 2, 0, 0), (.if_icmp .ge 39, 3, 330, 0)]
theorem kd_6_areAlike_287 : zdec md_6_areAlike 287 kb_6_areAlike_287 = true := by decide +kernel
def kb_6_areAlike_294 : List zI := [(.iload_n 2, 1, 0, 0), (.ifCond .eq 27, 3, 322, 0)]
theorem kd_6_areAlike_294 : zdec md_6_areAlike 294 kb_6_areAlike_294 = true := by decide +kernel
def kb_6_areAlike_298 : List zI := [(.aload_n 0, 1, 0, 0), (.iload_n 3, 1, 0, 0), (.iload 4, 2, 0, 0)]
theorem kd_6_areAlike_298 : zdec md_6_areAlike 298 kb_6_areAlike_298 = true := by decide +kernel
theorem kr_6_areAlike_302 : decode md_6_areAlike.2.1 302 = .ok (.invokevirtual 57, 3) := by decide +kernel
def kb_6_areAlike_305 : List zI := [(.aload_n 1, 1, 0, 0), (.bipush 9, 2, 0, 0), (.iload_n 3, 1, 0, 0), (.isub, 1, 0, 0), (.iload 4, 2, 0, 0)]
theorem kd_6_areAlike_305 : zdec md_6_areAlike 305 kb_6_areAlike_305 = true := by decide +kernel
theorem kr_6_areAlike_312 : decode md_6_areAlike.2.1 312 = .ok (.invokevirtual 57, 3) := by decide +kernel
theorem kr_6_areAlike_315 : decode md_6_areAlike.2.1 315 = .ok (.if_icmp .ne 7, 3) := by decide +kernel
def kb_6_areAlike_318 : List zI := [(.iconst 1, 1, 0, 0), (.goto 4, 3, 323, 0)]
theorem kd_6_areAlike_318 : zdec md_6_areAlike 318 kb_6_areAlike_318 = true := by decide +kernel
def kb_6_areAlike_323 : List zI := [(.istore_n 2, 1, 0, 0), (.iinc 4 1, 3, 0, 0), (.goto (-40), 3, 287, 0)]
theorem kd_6_areAlike_323 : zdec md_6_areAlike 323 kb_6_areAlike_323 = true := by decide +kernel
def kb_6_areAlike_278 : List zI := [(.iload_n 3, 1, 0, 0), (.bipush 10, 2, 0, 0), (.if_icmp .ge 101, 3, 382, 0)]
theorem kd_6_areAlike_278 : zdec md_6_areAlike 278 kb_6_areAlike_278 = true := by decide +kernel
def kb_6_areAlike_284 : List zI := [(.iconst 0, 1, 0, 0), (.istore 4, 2, 0, 0)]
theorem kd_6_areAlike_284 : zdec md_6_areAlike 284 kb_6_areAlike_284 = true := by decide +kernel
def kb_6_areAlike_330 : List zI := [(.iload_n 2, 1, 0, 0), (.ifCond .eq 43, 3, 374, 0)]
theorem kd_6_areAlike_330 : zdec md_6_areAlike 330 kb_6_areAlike_330 = true := by decide +kernel
def kb_6_areAlike_334 : List zI := [(.aload_n 0, 1, 0, 0), (.iload_n 3, 1, 0, 0), (.iconst 1, 1, 0, 0)]
theorem kd_6_areAlike_334 : zdec md_6_areAlike 334 kb_6_areAlike_334 = true := by decide +kernel
theorem kr_6_areAlike_337 : decode md_6_areAlike.2.1 337 = .ok (.invokevirtual 100, 3) := by decide +kernel
def kb_6_areAlike_340 : List zI := [(.aload_n 1, 1, 0, 0), (.bipush 9, 2, 0, 0), (.iload_n 3, 1, 0, 0), (.isub, 1, 0, 0), (.iconst 1, 1, 0, 0)]
theorem kd_6_areAlike_340 : zdec md_6_areAlike 340 kb_6_areAlike_340 = true := by decide +kernel
theorem kr_6_areAlike_346 : decode md_6_areAlike.2.1 346 = .ok (.invokevirtual 100, 3) := by decide +kernel
theorem kr_6_areAlike_349 : decode md_6_areAlike.2.1 349 = .ok (.if_icmp .ne 25, 3) := by decide +kernel
def kb_6_areAlike_352 : List zI := [(.aload_n 0, 1, 0, 0), (.iload_n 3, 1, 0, 0), (.iconst 0, 1, 0, 0)]
theorem kd_6_areAlike_352 : zdec md_6_areAlike 352 kb_6_areAlike_352 = true := by decide +kernel
theorem kr_6_areAlike_355 : decode md_6_areAlike.2.1 355 = .ok (.invokevirtual 100, 3) := by decide +kernel
def kb_6_areAlike_358 : List zI := [(.aload_n 1, 1, 0, 0), (.bipush 9, 2, 0, 0), (.iload_n 3, 1, 0, 0), (.isub, 1, 0, 0), (.iconst 0, 1, 0, 0)]
theorem kd_6_areAlike_358 : zdec md_6_areAlike 358 kb_6_areAlike_358 = true := by decide +kernel
theorem kr_6_areAlike_364 : decode md_6_areAlike.2.1 364 = .ok (.invokevirtual 100, 3) := by decide +kernel
theorem kr_6_areAlike_367 : decode md_6_areAlike.2.1 367 = .ok (.if_icmp .ne 7, 3) := by decide +kernel
def kb_6_areAlike_370 : List zI := [(.iconst 1, 1, 0, 0), (.goto 4, 3, 375, 0)]
theorem kd_6_areAlike_370 : zdec md_6_areAlike 370 kb_6_areAlike_370 = true := by decide +kernel
def kb_6_areAlike_375 : List zI := [(.istore_n 2, 1, 0, 0), (.iinc 3 1, 3, 0, 0), (.goto (-101), 3, 278, 0)]
theorem kd_6_areAlike_375 : zdec md_6_areAlike 375 kb_6_areAlike_375 = true := by decide +kernel
def kb_6_areAlike_384 : List zI := [(.iload_n 3, 1, 0, 0), (.aload_n 0, 1, 0, 0), (.iconst 4, 1, 0, 0)]
theorem kd_6_areAlike_384 : zdec md_6_areAlike 384 kb_6_areAlike_384 = true := by decide +kernel
theorem kr_6_areAlike_387 : decode md_6_areAlike.2.1 387 = .ok (.invokevirtual 29, 3) := by decide +kernel
def kb_6_areAlike_390 : List zI := [(.if_icmp .gt 62, 3, 452, 0)]
theorem kd_6_areAlike_390 : zdec md_6_areAlike 390 kb_6_areAlike_390 = true := by decide +kernel
def kb_6_areAlike_452 : List zI := [(.iload_n 2, 1, 0, 0)]
theorem kd_6_areAlike_452 : zdec md_6_areAlike 452 kb_6_areAlike_452 = true := by decide +kernel
theorem kr_6_areAlike_453 : decode md_6_areAlike.2.1 453 = .ok (.ireturn, 1) := by decide +kernel
def kb_6_areAlike_393 : List zI := [(.aload_n 0, 1, 0, 0), (.iload_n 3, 1, 0, 0)]
theorem kd_6_areAlike_393 : zdec md_6_areAlike 393 kb_6_areAlike_393 = true := by decide +kernel
theorem kr_6_areAlike_395 : decode md_6_areAlike.2.1 395 = .ok (.invokevirtual 104, 3) := by decide +kernel
def kb_6_areAlike_398 : List zI := [(.istore 4, 2, 0, 0), (.iload_n 2, 1, 0, 0), (.ifCond .eq 43, 3, 444, 0)]
theorem kd_6_areAlike_398 : zdec md_6_areAlike 398 kb_6_areAlike_398 = true := by decide +kernel
def kb_6_areAlike_404 : List zI := [(.aload_n 1, 1, 0, 0), (.iload_n 3, 1, 0, 0)]
theorem kd_6_areAlike_404 : zdec md_6_areAlike 404 kb_6_areAlike_404 = true := by decide +kernel
theorem kr_6_areAlike_406 : decode md_6_areAlike.2.1 406 = .ok (.invokevirtual 104, 3) := by decide +kernel
def kb_6_areAlike_409 : List zI := [(.iload 4, 2, 0, 0), (.bipush 97, 2, 0, 0), (.if_icmp .ge 8, 3, 421, 0)]
theorem kd_6_areAlike_409 : zdec md_6_areAlike 409 kb_6_areAlike_409 = true := by decide +kernel
def kb_6_areAlike_421 : List zI := [(.iload 4, 2, 0, 0), (.bipush 122, 2, 0, 0), (.if_icmp .ne 8, 3, 433, 0)]
theorem kd_6_areAlike_421 : zdec md_6_areAlike 421 kb_6_areAlike_421 = true := by decide +kernel
def kb_6_areAlike_433 : List zI := [(.iload 4, 2, 0, 0), (.iconst 1, 1, 0, 0), (.iadd, 1, 0, 0)]
theorem kd_6_areAlike_433 : zdec md_6_areAlike 433 kb_6_areAlike_433 = true := by decide +kernel
theorem kr_6_areAlike_437 : decode md_6_areAlike.2.1 437 = .ok (.if_icmp .ne 7, 3) := by decide +kernel
def kb_6_areAlike_440 : List zI := [(.iconst 1, 1, 0, 0), (.goto 4, 3, 445, 0)]
theorem kd_6_areAlike_440 : zdec md_6_areAlike 440 kb_6_areAlike_440 = true := by decide +kernel
def kb_6_areAlike_445 : List zI := [(.istore_n 2, 1, 0, 0), (.iinc 3 1, 3, 0, 0), (.goto (-65), 3, 384, 0)]
theorem kd_6_areAlike_445 : zdec md_6_areAlike 445 kb_6_areAlike_445 = true := by decide +kernel
def kb_6_areAlike_428 : List zI := [(.bipush 97, 2, 0, 0), (.goto 7, 3, 437, 0)]
theorem kd_6_areAlike_428 : zdec md_6_areAlike 428 kb_6_areAlike_428 = true := by decide +kernel
def kb_6_areAlike_416 : List zI := [(.iload 4, 2, 0, 0), (.goto 19, 3, 437, 0)]
theorem kd_6_areAlike_416 : zdec md_6_areAlike 416 kb_6_areAlike_416 = true := by decide +kernel
def kb_6_areAlike_0 : List zI := [(.iconst 1, 1, 0, 0), (.istore_n 2, 1, 0, 0), (.iconst 0, 1, 0, 0), (.istore_n 3, 1, 0, 0)]
theorem kd_6_areAlike_0 : zdec md_6_areAlike 0 kb_6_areAlike_0 = true := by decide +kernel
def kb_6_areAlike_39 : List zI := [(.iconst 0, 1, 0, 0), (.istore_n 3, 1, 0, 0)]
theorem kd_6_areAlike_39 : zdec md_6_areAlike 39 kb_6_areAlike_39 = true := by decide +kernel
def kb_6_areAlike_149 : List zI := [(.iconst 0, 1, 0, 0), (.istore_n 3, 1, 0, 0)]
theorem kd_6_areAlike_149 : zdec md_6_areAlike 149 kb_6_areAlike_149 = true := by decide +kernel
def kb_6_areAlike_276 : List zI := [(.iconst 0, 1, 0, 0), (.istore_n 3, 1, 0, 0)]
theorem kd_6_areAlike_276 : zdec md_6_areAlike 276 kb_6_areAlike_276 = true := by decide +kernel
def kb_6_areAlike_382 : List zI := [(.iconst 0, 1, 0, 0), (.istore_n 3, 1, 0, 0)]
theorem kd_6_areAlike_382 : zdec md_6_areAlike 382 kb_6_areAlike_382 = true := by decide +kernel
section LAWS
variable {μ ν : zM}
theorem letter_r (B : zB μ) {a1 a2 a3 : Int} (h0 : -2147483648 ≤ a1 ∧ a1 ≤ 2147483647) (h1 : -2147483648 ≤ a2 ∧ a2 ≤ 2147483647) (h2 : -2147483648 ≤ a3 ∧ a3 ≤ 2147483647) : -5 ≤ xx_letter μ a1 a2 a3 ∧ xx_letter μ a1 a2 a3 ≤ 26 := by
  have := xr_letterAt B a1 a2 a3 h0 h1 h2
  unfold xx_letter
  repeat' split
  all_goals omega
theorem told_r (B : zB μ) {a1 : Int} (h0 : 0 ≤ a1 ∧ a1 ≤ 2147483647) : -5 ≤ xx_told μ a1 ∧ xx_told μ a1 ≤ 65535 := by
  have := xr_signToldAt B a1 h0
  unfold xx_told
  rw [if_neg (by omega)]
  exact this
theorem aa_4 (R : R2 μ ν) : ∀ (d : Nat) (k : Int), 0 ≤ k → k + d = 9 → ∀ {v : Option zV} {M : zM}, Ez md_6_areAlike 0 0 39 [(0, zr 0), (1, zr 113), (2, zi 1)] [] zSp (cmb μ ν) v zSp M → Ez md_6_areAlike 0 0 4 [(0, zr 0), (1, zr 113), (2, zi 1), (3, zi k)] [] zSp (cmb μ ν) v zSp M := by
  intro d
  induction d with
  | zero =>
    intro k k0 kd v M kk
    refine Az.blk kd_6_areAlike_4 (show zR k ∧ zR 9 ∧ ((¬ k < 9 → Ez md_6_areAlike 0 0 39 [(0, zr 0), (1, zr 113), (2, zi 1), (3, zi k)] [] zSp (cmb μ ν) _ _ _) ∧ (k < 9 → Ez md_6_areAlike 0 0 10 [(0, zr 0), (1, zr 113), (2, zi 1), (3, zi k)] [] zSp (cmb μ ν) _ _ _)) from ⟨(by omega), (by omega), fun _ => ?_, fun h => absurd h (show ¬ k < 9 by omega)⟩)
    refine Az.lvs (lv' := [(0, zr 0), (1, zr 113), (2, zi 1)]) ?_ ?_
    · intro q hq; simp only [List.mem_cons, List.not_mem_nil, or_false] at hq; rcases hq with rfl | rfl | rfl <;> rfl
    exact kk
  | succ d ih =>
    intro k k0 kd v M kk
    refine Az.blk kd_6_areAlike_4 (show zR k ∧ zR 9 ∧ ((¬ k < 9 → Ez md_6_areAlike 0 0 39 [(0, zr 0), (1, zr 113), (2, zi 1), (3, zi k)] [] zSp (cmb μ ν) _ _ _) ∧ (k < 9 → Ez md_6_areAlike 0 0 10 [(0, zr 0), (1, zr 113), (2, zi 1), (3, zi k)] [] zSp (cmb μ ν) _ _ _)) from ⟨(by omega), (by omega), fun h => absurd (show k < 9 by omega) h, fun _ => ?_⟩)
    refine Az.blk kd_6_areAlike_10 (show zR 1 ∧ (((1 : Int) = 0 → Ez md_6_areAlike 0 0 31 [(0, zr 0), (1, zr 113), (2, zi 1), (3, zi k)] [] zSp (cmb μ ν) _ _ _) ∧ (¬ (1 : Int) = 0 → Ez md_6_areAlike 0 0 14 [(0, zr 0), (1, zr 113), (2, zi 1), (3, zi k)] [] zSp (cmb μ ν) _ _ _)) from ⟨(by omega), fun h => absurd h (by decide), fun _ => ?_⟩)
    refine Az.blk kd_6_areAlike_14 (show Ez md_6_areAlike 0 0 16 [(0, zr 0), (1, zr 113), (2, zi 1), (3, zi k)] [zi k, zr 0] zSp (cmb μ ν) _ _ _ from ?_)
    refine Az.oV (mc := md_5_count) (n := 1) (As := [zi k]) (rest := []) (z := (xx_count μ k)) kr_6_areAlike_16 zw_296 ok_5_count rfl rfl rfl trivial rfl (xz_count R.B k (by omega)) rfl rfl (show Ez md_6_areAlike 0 0 19 [(0, zr 0), (1, zr 113), (2, zi 1), (3, zi k)] [zi (xx_count μ k)] zSp (cmb μ ν) _ _ _ from ?_)
    refine Az.blk kd_6_areAlike_19 (show Ez md_6_areAlike 0 0 21 [(0, zr 0), (1, zr 113), (2, zi 1), (3, zi k)] [zi k, zr 113, zi (xx_count μ k)] zSp (cmb μ ν) _ _ _ from ?_)
    refine Az.pV (mc := md_5_count) (n := 1) (As := [zi k]) (rest := [zi (xx_count μ k)]) (z := (xx_count ν k)) kr_6_areAlike_21 zw_296 ok_5_count rfl rfl rfl trivial rfl (xz_count R.B' k (by omega)) rfl rfl (show Ez md_6_areAlike 0 0 24 [(0, zr 0), (1, zr 113), (2, zi 1), (3, zi k)] [zi (xx_count ν k), zi (xx_count μ k)] zSp (cmb μ ν) _ _ _ from ?_)
    refine Az.icne (tg := 31) (a := (xx_count μ k)) (b := (xx_count ν k)) kr_6_areAlike_24 (by decide) rfl ((al_count R.N (by omega)).symm) (show Ez md_6_areAlike 0 0 27 [(0, zr 0), (1, zr 113), (2, zi 1), (3, zi k)] [] zSp (cmb μ ν) _ _ _ from ?_)
    refine Az.blk kd_6_areAlike_27 (show Ez md_6_areAlike 0 0 32 [(0, zr 0), (1, zr 113), (2, zi 1), (3, zi k)] [zi 1] zSp (cmb μ ν) _ _ _ from ?_)
    refine Az.blk kd_6_areAlike_32 (show Ez md_6_areAlike 0 0 4 [(3, zi (k + 1)), (2, zi 1), (0, zr 0), (1, zr 113)] [] zSp (cmb μ ν) _ _ _ from ?_)
    refine Az.lvs (lv' := [(0, zr 0), (1, zr 113), (2, zi 1), (3, zi (k + 1))]) ?_ ?_
    · intro q hq; simp only [List.mem_cons, List.not_mem_nil, or_false] at hq; rcases hq with rfl | rfl | rfl | rfl <;> rfl
    exact ih (k + 1) (by omega) (by omega) kk
theorem aa_53 (R : R2 μ ν) {k : Int} (h0 : 0 ≤ k) (h1 : k < μ 10 1) : ∀ (d : Nat) (j : Int), 0 ≤ j → j + d = 6 → ∀ {v : Option zV} {M : zM}, Ez md_6_areAlike 0 0 120 [(0, zr 0), (1, zr 113), (2, zi 1), (3, zi k)] [] zSp (cmb μ ν) v zSp M → Ez md_6_areAlike 0 0 53 [(0, zr 0), (1, zr 113), (2, zi 1), (3, zi k), (4, zi j)] [] zSp (cmb μ ν) v zSp M := by
  intro d
  induction d with
  | zero =>
    intro j k0 kd v M kk
    refine Az.blk kd_6_areAlike_53 (show zR j ∧ zR 6 ∧ ((¬ j < 6 → Ez md_6_areAlike 0 0 120 [(0, zr 0), (1, zr 113), (2, zi 1), (3, zi k), (4, zi j)] [] zSp (cmb μ ν) _ _ _) ∧ (j < 6 → Ez md_6_areAlike 0 0 60 [(0, zr 0), (1, zr 113), (2, zi 1), (3, zi k), (4, zi j)] [] zSp (cmb μ ν) _ _ _)) from ⟨(by omega), (by omega), fun _ => ?_, fun h => absurd h (show ¬ j < 6 by omega)⟩)
    refine Az.lvs (lv' := [(0, zr 0), (1, zr 113), (2, zi 1), (3, zi k)]) ?_ ?_
    · intro q hq; simp only [List.mem_cons, List.not_mem_nil, or_false] at hq; rcases hq with rfl | rfl | rfl | rfl <;> rfl
    exact kk
  | succ d ih =>
    intro j k0 kd v M kk
    have hb := R.N.hob
    refine Az.blk kd_6_areAlike_53 (show zR j ∧ zR 6 ∧ ((¬ j < 6 → Ez md_6_areAlike 0 0 120 [(0, zr 0), (1, zr 113), (2, zi 1), (3, zi k), (4, zi j)] [] zSp (cmb μ ν) _ _ _) ∧ (j < 6 → Ez md_6_areAlike 0 0 60 [(0, zr 0), (1, zr 113), (2, zi 1), (3, zi k), (4, zi j)] [] zSp (cmb μ ν) _ _ _)) from ⟨(by omega), (by omega), fun h => absurd (show j < 6 by omega) h, fun _ => ?_⟩)
    refine Az.blk kd_6_areAlike_60 (show zR 1 ∧ (((1 : Int) = 0 → Ez md_6_areAlike 0 0 112 [(0, zr 0), (1, zr 113), (2, zi 1), (3, zi k), (4, zi j)] [] zSp (cmb μ ν) _ _ _) ∧ (¬ (1 : Int) = 0 → Ez md_6_areAlike 0 0 64 [(0, zr 0), (1, zr 113), (2, zi 1), (3, zi k), (4, zi j)] [] zSp (cmb μ ν) _ _ _)) from ⟨(by omega), fun h => absurd h (by decide), fun _ => ?_⟩)
    refine Az.blk kd_6_areAlike_64 (show zR j ∧ zR 1 ∧ ((¬ j = 1 → Ez md_6_areAlike 0 0 91 [(0, zr 0), (1, zr 113), (2, zi 1), (3, zi k), (4, zi j)] [] zSp (cmb μ ν) _ _ _) ∧ (j = 1 → Ez md_6_areAlike 0 0 70 [(0, zr 0), (1, zr 113), (2, zi 1), (3, zi k), (4, zi j)] [] zSp (cmb μ ν) _ _ _)) from ⟨(by omega), (by omega), fun q => ?_, fun q => ?_⟩)
    · refine Az.blk kd_6_areAlike_91 (show Ez md_6_areAlike 0 0 95 [(0, zr 0), (1, zr 113), (2, zi 1), (3, zi k), (4, zi j)] [zi j, zi k, zr 0] zSp (cmb μ ν) _ _ _ from ?_)
      refine Az.oV (mc := md_5_hole) (n := 2) (As := [zi k, zi j]) (rest := []) (z := (xx_hole μ k j)) kr_6_areAlike_95 zw_481 ok_5_hole rfl rfl rfl trivial rfl (xz_hole R.B k j (by omega) (by omega)) rfl rfl (show Ez md_6_areAlike 0 0 98 [(0, zr 0), (1, zr 113), (2, zi 1), (3, zi k), (4, zi j)] [zi (xx_hole μ k j)] zSp (cmb μ ν) _ _ _ from ?_)
      refine Az.blk kd_6_areAlike_98 (show Ez md_6_areAlike 0 0 102 [(0, zr 0), (1, zr 113), (2, zi 1), (3, zi k), (4, zi j)] [zi j, zi k, zr 113, zi (xx_hole μ k j)] zSp (cmb μ ν) _ _ _ from ?_)
      refine Az.pV (mc := md_5_hole) (n := 2) (As := [zi k, zi j]) (rest := [zi (xx_hole μ k j)]) (z := (xx_hole ν k j)) kr_6_areAlike_102 zw_481 ok_5_hole rfl rfl rfl trivial rfl (xz_hole R.B' k j (by omega) (by omega)) rfl rfl (show Ez md_6_areAlike 0 0 105 [(0, zr 0), (1, zr 113), (2, zi 1), (3, zi k), (4, zi j)] [zi (xx_hole ν k j), zi (xx_hole μ k j)] zSp (cmb μ ν) _ _ _ from ?_)
      refine Az.icne (tg := 112) (a := (xx_hole μ k j)) (b := (xx_hole ν k j)) kr_6_areAlike_105 (by decide) rfl ((al_hole R.N j q).symm) (show Ez md_6_areAlike 0 0 108 [(0, zr 0), (1, zr 113), (2, zi 1), (3, zi k), (4, zi j)] [] zSp (cmb μ ν) _ _ _ from ?_)
      refine Az.blk kd_6_areAlike_108 (show Ez md_6_areAlike 0 0 113 [(0, zr 0), (1, zr 113), (2, zi 1), (3, zi k), (4, zi j)] [zi 1] zSp (cmb μ ν) _ _ _ from ?_)
      refine Az.blk kd_6_areAlike_113 (show Ez md_6_areAlike 0 0 53 [(4, zi (j + 1)), (2, zi 1), (0, zr 0), (1, zr 113), (3, zi k)] [] zSp (cmb μ ν) _ _ _ from ?_)
      refine Az.lvs (lv' := [(0, zr 0), (1, zr 113), (2, zi 1), (3, zi k), (4, zi (j + 1))]) ?_ ?_
      · intro q hq; simp only [List.mem_cons, List.not_mem_nil, or_false] at hq; rcases hq with rfl | rfl | rfl | rfl | rfl <;> rfl
      exact ih (j + 1) (by omega) (by omega) kk
    · refine Az.blk kd_6_areAlike_70 (show Ez md_6_areAlike 0 0 73 [(0, zr 0), (1, zr 113), (2, zi 1), (3, zi k), (4, zi j)] [zi 1, zi k, zr 0] zSp (cmb μ ν) _ _ _ from ?_)
      refine Az.oV (mc := md_5_hole) (n := 2) (As := [zi k, zi 1]) (rest := []) (z := (xx_hole μ k 1)) kr_6_areAlike_73 zw_481 ok_5_hole rfl rfl rfl trivial rfl (xz_hole R.B k 1 (by omega) (by omega)) rfl rfl (show Ez md_6_areAlike 0 0 76 [(0, zr 0), (1, zr 113), (2, zi 1), (3, zi k), (4, zi j)] [zi (xx_hole μ k 1)] zSp (cmb μ ν) _ _ _ from ?_)
      refine Az.blk kd_6_areAlike_76 (show Ez md_6_areAlike 0 0 81 [(0, zr 0), (1, zr 113), (2, zi 1), (3, zi k), (4, zi j)] [zi 1, zi k, zr 113, zi 9, zi (xx_hole μ k 1)] zSp (cmb μ ν) _ _ _ from ?_)
      refine Az.pV (mc := md_5_hole) (n := 2) (As := [zi k, zi 1]) (rest := [zi 9, zi (xx_hole μ k 1)]) (z := (xx_hole ν k 1)) kr_6_areAlike_81 zw_481 ok_5_hole rfl rfl rfl trivial rfl (xz_hole R.B' k 1 (by omega) (by omega)) rfl rfl (show Ez md_6_areAlike 0 0 84 [(0, zr 0), (1, zr 113), (2, zi 1), (3, zi k), (4, zi j)] [zi (xx_hole ν k 1), zi 9, zi (xx_hole μ k 1)] zSp (cmb μ ν) _ _ _ from ?_)
      refine Az.blk kd_6_areAlike_84 (show Ez md_6_areAlike 0 0 85 [(0, zr 0), (1, zr 113), (2, zi 1), (3, zi k), (4, zi j)] [zi (9 - (xx_hole ν k 1)), zi (xx_hole μ k 1)] zSp (cmb μ ν) _ _ _ from ?_)
      refine Az.icne (tg := 112) (a := (xx_hole μ k 1)) (b := (9 - (xx_hole ν k 1))) kr_6_areAlike_85 (by decide) rfl (al_hole1 R.N h0 h1) (show Ez md_6_areAlike 0 0 88 [(0, zr 0), (1, zr 113), (2, zi 1), (3, zi k), (4, zi j)] [] zSp (cmb μ ν) _ _ _ from ?_)
      refine Az.blk kd_6_areAlike_88 (show Ez md_6_areAlike 0 0 108 [(0, zr 0), (1, zr 113), (2, zi 1), (3, zi k), (4, zi j)] [] zSp (cmb μ ν) _ _ _ from ?_)
      refine Az.blk kd_6_areAlike_108 (show Ez md_6_areAlike 0 0 113 [(0, zr 0), (1, zr 113), (2, zi 1), (3, zi k), (4, zi j)] [zi 1] zSp (cmb μ ν) _ _ _ from ?_)
      refine Az.blk kd_6_areAlike_113 (show Ez md_6_areAlike 0 0 53 [(4, zi (j + 1)), (2, zi 1), (0, zr 0), (1, zr 113), (3, zi k)] [] zSp (cmb μ ν) _ _ _ from ?_)
      refine Az.lvs (lv' := [(0, zr 0), (1, zr 113), (2, zi 1), (3, zi k), (4, zi (j + 1))]) ?_ ?_
      · intro q hq; simp only [List.mem_cons, List.not_mem_nil, or_false] at hq; rcases hq with rfl | rfl | rfl | rfl | rfl <;> rfl
      exact ih (j + 1) (by omega) (by omega) kk
theorem aa_41 (R : R2 μ ν) : ∀ (d : Nat) (k : Int), 0 ≤ k → k + d = μ 10 1 → ∀ {v : Option zV} {M : zM}, Ez md_6_areAlike 0 0 149 [(0, zr 0), (1, zr 113), (2, zi 1)] [] zSp (cmb μ ν) v zSp M → Ez md_6_areAlike 0 0 41 [(0, zr 0), (1, zr 113), (2, zi 1), (3, zi k)] [] zSp (cmb μ ν) v zSp M := by
  intro d
  induction d with
  | zero =>
    intro k k0 kd v M kk
    have hb := R.N.hob
    refine Az.blk kd_6_areAlike_41 (show Ez md_6_areAlike 0 0 44 [(0, zr 0), (1, zr 113), (2, zi 1), (3, zi k)] [zi 2, zr 0, zi k] zSp (cmb μ ν) _ _ _ from ?_)
    refine Az.oV (mc := md_5_count) (n := 1) (As := [zi 2]) (rest := [zi k]) (z := (xx_count μ 2)) kr_6_areAlike_44 zw_296 ok_5_count rfl rfl rfl trivial rfl (xz_count R.B 2 (by omega)) rfl rfl (show Ez md_6_areAlike 0 0 47 [(0, zr 0), (1, zr 113), (2, zi 1), (3, zi k)] [zi (xx_count μ 2), zi k] zSp (cmb μ ν) _ _ _ from ?_)
    rw [show (xx_count μ 2) = (μ 10 1) from rfl]
    refine Az.blk kd_6_areAlike_47 (show zR k ∧ zR (μ 10 1) ∧ ((¬ k < (μ 10 1) → Ez md_6_areAlike 0 0 149 [(0, zr 0), (1, zr 113), (2, zi 1), (3, zi k)] [] zSp (cmb μ ν) _ _ _) ∧ (k < (μ 10 1) → Ez md_6_areAlike 0 0 50 [(0, zr 0), (1, zr 113), (2, zi 1), (3, zi k)] [] zSp (cmb μ ν) _ _ _)) from ⟨(by omega), (by omega), fun _ => ?_, fun h => absurd h (show ¬ k < μ 10 1 by omega)⟩)
    refine Az.lvs (lv' := [(0, zr 0), (1, zr 113), (2, zi 1)]) ?_ ?_
    · intro q hq; simp only [List.mem_cons, List.not_mem_nil, or_false] at hq; rcases hq with rfl | rfl | rfl <;> rfl
    exact kk
  | succ d ih =>
    intro k k0 kd v M kk
    have hb := R.N.hob
    refine Az.blk kd_6_areAlike_41 (show Ez md_6_areAlike 0 0 44 [(0, zr 0), (1, zr 113), (2, zi 1), (3, zi k)] [zi 2, zr 0, zi k] zSp (cmb μ ν) _ _ _ from ?_)
    refine Az.oV (mc := md_5_count) (n := 1) (As := [zi 2]) (rest := [zi k]) (z := (xx_count μ 2)) kr_6_areAlike_44 zw_296 ok_5_count rfl rfl rfl trivial rfl (xz_count R.B 2 (by omega)) rfl rfl (show Ez md_6_areAlike 0 0 47 [(0, zr 0), (1, zr 113), (2, zi 1), (3, zi k)] [zi (xx_count μ 2), zi k] zSp (cmb μ ν) _ _ _ from ?_)
    rw [show (xx_count μ 2) = (μ 10 1) from rfl]
    refine Az.blk kd_6_areAlike_47 (show zR k ∧ zR (μ 10 1) ∧ ((¬ k < (μ 10 1) → Ez md_6_areAlike 0 0 149 [(0, zr 0), (1, zr 113), (2, zi 1), (3, zi k)] [] zSp (cmb μ ν) _ _ _) ∧ (k < (μ 10 1) → Ez md_6_areAlike 0 0 50 [(0, zr 0), (1, zr 113), (2, zi 1), (3, zi k)] [] zSp (cmb μ ν) _ _ _)) from ⟨(by omega), (by omega), fun h => absurd (show k < μ 10 1 by omega) h, fun _ => ?_⟩)
    refine Az.blk kd_6_areAlike_50 (show Ez md_6_areAlike 0 0 53 [(4, zi 0), (0, zr 0), (1, zr 113), (2, zi 1), (3, zi k)] [] zSp (cmb μ ν) _ _ _ from ?_)
    refine Az.lvs (lv' := [(0, zr 0), (1, zr 113), (2, zi 1), (3, zi k), (4, zi 0)]) ?_ ?_
    · intro q hq; simp only [List.mem_cons, List.not_mem_nil, or_false] at hq; rcases hq with rfl | rfl | rfl | rfl | rfl <;> rfl
    refine aa_53 R k0 (by omega) 6 0 (by decide) (by decide) ?_
    refine Az.blk kd_6_areAlike_120 (show zR 1 ∧ (((1 : Int) = 0 → Ez md_6_areAlike 0 0 141 [(0, zr 0), (1, zr 113), (2, zi 1), (3, zi k)] [] zSp (cmb μ ν) _ _ _) ∧ (¬ (1 : Int) = 0 → Ez md_6_areAlike 0 0 124 [(0, zr 0), (1, zr 113), (2, zi 1), (3, zi k)] [] zSp (cmb μ ν) _ _ _)) from ⟨(by omega), fun h => absurd h (by decide), fun _ => ?_⟩)
    refine Az.blk kd_6_areAlike_124 (show Ez md_6_areAlike 0 0 126 [(0, zr 0), (1, zr 113), (2, zi 1), (3, zi k)] [zi k, zr 0] zSp (cmb μ ν) _ _ _ from ?_)
    refine Az.oV (mc := md_5_fits) (n := 1) (As := [zi k]) (rest := []) (z := (xx_fits μ k)) kr_6_areAlike_126 zw_550 ok_5_fits rfl rfl rfl trivial rfl (xz_fits R.B k (by omega)) rfl rfl (show Ez md_6_areAlike 0 0 129 [(0, zr 0), (1, zr 113), (2, zi 1), (3, zi k)] [zi (xx_fits μ k)] zSp (cmb μ ν) _ _ _ from ?_)
    refine Az.blk kd_6_areAlike_129 (show Ez md_6_areAlike 0 0 131 [(0, zr 0), (1, zr 113), (2, zi 1), (3, zi k)] [zi k, zr 113, zi (xx_fits μ k)] zSp (cmb μ ν) _ _ _ from ?_)
    refine Az.pV (mc := md_5_fits) (n := 1) (As := [zi k]) (rest := [zi (xx_fits μ k)]) (z := (xx_fits ν k)) kr_6_areAlike_131 zw_550 ok_5_fits rfl rfl rfl trivial rfl (xz_fits R.B' k (by omega)) rfl rfl (show Ez md_6_areAlike 0 0 134 [(0, zr 0), (1, zr 113), (2, zi 1), (3, zi k)] [zi (xx_fits ν k), zi (xx_fits μ k)] zSp (cmb μ ν) _ _ _ from ?_)
    refine Az.icne (tg := 141) (a := (xx_fits μ k)) (b := (xx_fits ν k)) kr_6_areAlike_134 (by decide) rfl ((al_fits R.N k0 (by omega)).symm) (show Ez md_6_areAlike 0 0 137 [(0, zr 0), (1, zr 113), (2, zi 1), (3, zi k)] [] zSp (cmb μ ν) _ _ _ from ?_)
    refine Az.blk kd_6_areAlike_137 (show Ez md_6_areAlike 0 0 142 [(0, zr 0), (1, zr 113), (2, zi 1), (3, zi k)] [zi 1] zSp (cmb μ ν) _ _ _ from ?_)
    refine Az.blk kd_6_areAlike_142 (show Ez md_6_areAlike 0 0 41 [(3, zi (k + 1)), (2, zi 1), (0, zr 0), (1, zr 113)] [] zSp (cmb μ ν) _ _ _ from ?_)
    refine Az.lvs (lv' := [(0, zr 0), (1, zr 113), (2, zi 1), (3, zi (k + 1))]) ?_ ?_
    · intro q hq; simp only [List.mem_cons, List.not_mem_nil, or_false] at hq; rcases hq with rfl | rfl | rfl | rfl <;> rfl
    exact ih (k + 1) (by omega) (by omega) kk
theorem aa_163 (R : R2 μ ν) {k : Int} (h0 : 0 ≤ k) (h1 : k < μ 4 0) : ∀ (d : Nat) (j : Int), 0 ≤ j → j + d = 4 → ∀ {v : Option zV} {M : zM}, Ez md_6_areAlike 0 0 202 [(0, zr 0), (1, zr 113), (2, zi 1), (3, zi k)] [] zSp (cmb μ ν) v zSp M → Ez md_6_areAlike 0 0 163 [(0, zr 0), (1, zr 113), (2, zi 1), (3, zi k), (4, zi j)] [] zSp (cmb μ ν) v zSp M := by
  intro d
  induction d with
  | zero =>
    intro j k0 kd v M kk
    refine Az.blk kd_6_areAlike_163 (show zR j ∧ zR 4 ∧ ((¬ j < 4 → Ez md_6_areAlike 0 0 202 [(0, zr 0), (1, zr 113), (2, zi 1), (3, zi k), (4, zi j)] [] zSp (cmb μ ν) _ _ _) ∧ (j < 4 → Ez md_6_areAlike 0 0 169 [(0, zr 0), (1, zr 113), (2, zi 1), (3, zi k), (4, zi j)] [] zSp (cmb μ ν) _ _ _)) from ⟨(by omega), (by omega), fun _ => ?_, fun h => absurd h (show ¬ j < 4 by omega)⟩)
    refine Az.lvs (lv' := [(0, zr 0), (1, zr 113), (2, zi 1), (3, zi k)]) ?_ ?_
    · intro q hq; simp only [List.mem_cons, List.not_mem_nil, or_false] at hq; rcases hq with rfl | rfl | rfl | rfl <;> rfl
    exact kk
  | succ d ih =>
    intro j k0 kd v M kk
    have hb := R.N.knb
    refine Az.blk kd_6_areAlike_163 (show zR j ∧ zR 4 ∧ ((¬ j < 4 → Ez md_6_areAlike 0 0 202 [(0, zr 0), (1, zr 113), (2, zi 1), (3, zi k), (4, zi j)] [] zSp (cmb μ ν) _ _ _) ∧ (j < 4 → Ez md_6_areAlike 0 0 169 [(0, zr 0), (1, zr 113), (2, zi 1), (3, zi k), (4, zi j)] [] zSp (cmb μ ν) _ _ _)) from ⟨(by omega), (by omega), fun h => absurd (show j < 4 by omega) h, fun _ => ?_⟩)
    refine Az.blk kd_6_areAlike_169 (show zR 1 ∧ (((1 : Int) = 0 → Ez md_6_areAlike 0 0 194 [(0, zr 0), (1, zr 113), (2, zi 1), (3, zi k), (4, zi j)] [] zSp (cmb μ ν) _ _ _) ∧ (¬ (1 : Int) = 0 → Ez md_6_areAlike 0 0 173 [(0, zr 0), (1, zr 113), (2, zi 1), (3, zi k), (4, zi j)] [] zSp (cmb μ ν) _ _ _)) from ⟨(by omega), fun h => absurd h (by decide), fun _ => ?_⟩)
    refine Az.blk kd_6_areAlike_173 (show Ez md_6_areAlike 0 0 177 [(0, zr 0), (1, zr 113), (2, zi 1), (3, zi k), (4, zi j)] [zi j, zi k, zr 0] zSp (cmb μ ν) _ _ _ from ?_)
    refine Az.oV (mc := md_5_word) (n := 2) (As := [zi k, zi j]) (rest := []) (z := (xx_word μ k j)) kr_6_areAlike_177 zw_432 ok_5_word rfl rfl rfl trivial rfl (xz_word R.B k j (by omega) (by omega)) rfl rfl (show Ez md_6_areAlike 0 0 180 [(0, zr 0), (1, zr 113), (2, zi 1), (3, zi k), (4, zi j)] [zi (xx_word μ k j)] zSp (cmb μ ν) _ _ _ from ?_)
    refine Az.blk kd_6_areAlike_180 (show Ez md_6_areAlike 0 0 184 [(0, zr 0), (1, zr 113), (2, zi 1), (3, zi k), (4, zi j)] [zi j, zi k, zr 113, zi (xx_word μ k j)] zSp (cmb μ ν) _ _ _ from ?_)
    refine Az.pV (mc := md_5_word) (n := 2) (As := [zi k, zi j]) (rest := [zi (xx_word μ k j)]) (z := (xx_word ν k j)) kr_6_areAlike_184 zw_432 ok_5_word rfl rfl rfl trivial rfl (xz_word R.B' k j (by omega) (by omega)) rfl rfl (show Ez md_6_areAlike 0 0 187 [(0, zr 0), (1, zr 113), (2, zi 1), (3, zi k), (4, zi j)] [zi (xx_word ν k j), zi (xx_word μ k j)] zSp (cmb μ ν) _ _ _ from ?_)
    refine Az.icne (tg := 194) (a := (xx_word μ k j)) (b := (xx_word ν k j)) kr_6_areAlike_187 (by decide) rfl ((al_word R.N k j).symm) (show Ez md_6_areAlike 0 0 190 [(0, zr 0), (1, zr 113), (2, zi 1), (3, zi k), (4, zi j)] [] zSp (cmb μ ν) _ _ _ from ?_)
    refine Az.blk kd_6_areAlike_190 (show Ez md_6_areAlike 0 0 195 [(0, zr 0), (1, zr 113), (2, zi 1), (3, zi k), (4, zi j)] [zi 1] zSp (cmb μ ν) _ _ _ from ?_)
    refine Az.blk kd_6_areAlike_195 (show Ez md_6_areAlike 0 0 163 [(4, zi (j + 1)), (2, zi 1), (0, zr 0), (1, zr 113), (3, zi k)] [] zSp (cmb μ ν) _ _ _ from ?_)
    refine Az.lvs (lv' := [(0, zr 0), (1, zr 113), (2, zi 1), (3, zi k), (4, zi (j + 1))]) ?_ ?_
    · intro q hq; simp only [List.mem_cons, List.not_mem_nil, or_false] at hq; rcases hq with rfl | rfl | rfl | rfl | rfl <;> rfl
    exact ih (j + 1) (by omega) (by omega) kk
theorem aa_205 (R : R2 μ ν) {k : Int} (h0 : 0 ≤ k) (h1 : k < μ 4 0) : ∀ (d : Nat) (j : Int), 0 ≤ j → j + d = 10 → ∀ {v : Option zV} {M : zM}, Ez md_6_areAlike 0 0 270 [(0, zr 0), (1, zr 113), (2, zi 1), (3, zi k)] [] zSp (cmb μ ν) v zSp M → Ez md_6_areAlike 0 0 205 [(0, zr 0), (1, zr 113), (2, zi 1), (3, zi k), (4, zi j)] [] zSp (cmb μ ν) v zSp M := by
  intro d
  induction d with
  | zero =>
    intro j k0 kd v M kk
    refine Az.blk kd_6_areAlike_205 (show zR j ∧ zR 10 ∧ ((¬ j < 10 → Ez md_6_areAlike 0 0 270 [(0, zr 0), (1, zr 113), (2, zi 1), (3, zi k), (4, zi j)] [] zSp (cmb μ ν) _ _ _) ∧ (j < 10 → Ez md_6_areAlike 0 0 212 [(0, zr 0), (1, zr 113), (2, zi 1), (3, zi k), (4, zi j)] [] zSp (cmb μ ν) _ _ _)) from ⟨(by omega), (by omega), fun _ => ?_, fun h => absurd h (show ¬ j < 10 by omega)⟩)
    refine Az.lvs (lv' := [(0, zr 0), (1, zr 113), (2, zi 1), (3, zi k)]) ?_ ?_
    · intro q hq; simp only [List.mem_cons, List.not_mem_nil, or_false] at hq; rcases hq with rfl | rfl | rfl | rfl <;> rfl
    exact kk
  | succ d ih =>
    intro j k0 kd v M kk
    have hb := R.N.knb
    have hl := al_letter R.N (f := k % 6) (p := j) h0 h1 (by omega) (by omega) k0
    have hr := letter_r R.B (a1 := k) (a2 := k % 6) (a3 := j) (by omega) (by omega) (by omega)
    obtain ⟨l, hv⟩ : ∃ l, l = xx_letter μ k (k % 6) j := ⟨_, rfl⟩
    rw [← hv] at hl hr
    refine Az.blk kd_6_areAlike_205 (show zR j ∧ zR 10 ∧ ((¬ j < 10 → Ez md_6_areAlike 0 0 270 [(0, zr 0), (1, zr 113), (2, zi 1), (3, zi k), (4, zi j)] [] zSp (cmb μ ν) _ _ _) ∧ (j < 10 → Ez md_6_areAlike 0 0 212 [(0, zr 0), (1, zr 113), (2, zi 1), (3, zi k), (4, zi j)] [] zSp (cmb μ ν) _ _ _)) from ⟨(by omega), (by omega), fun h => absurd (show j < 10 by omega) h, fun _ => ?_⟩)
    refine Az.blk kd_6_areAlike_212 (show (0 ≤ k ∧ k ≤ 2147483647) ∧ (0 < (6 : Int) ∧ (6 : Int) ≤ 2147483647) ∧ Ez md_6_areAlike 0 0 220 [(0, zr 0), (1, zr 113), (2, zi 1), (3, zi k), (4, zi j)] [zi j, zi (k % 6), zi k, zr 0] zSp (cmb μ ν) _ _ _ from ⟨(by omega), (by omega), ?_⟩)
    refine Az.oV (mc := md_5_letter) (n := 3) (As := [zi k, zi (k % 6), zi j]) (rest := []) (z := (xx_letter μ k (k % 6) j)) kr_6_areAlike_220 zw_554 ok_5_letter rfl rfl rfl trivial rfl (xz_letter R.B k (k % 6) j (by omega) (by omega) (by omega)) rfl rfl (show Ez md_6_areAlike 0 0 223 [(0, zr 0), (1, zr 113), (2, zi 1), (3, zi k), (4, zi j)] [zi (xx_letter μ k (k % 6) j)] zSp (cmb μ ν) _ _ _ from ?_)
    rw [show (xx_letter μ k (k % 6) j) = l from hv.symm]
    refine Az.blk kd_6_areAlike_223 (show zR 1 ∧ (((1 : Int) = 0 → Ez md_6_areAlike 0 0 262 [(5, zi l), (0, zr 0), (1, zr 113), (2, zi 1), (3, zi k), (4, zi j)] [] zSp (cmb μ ν) _ _ _) ∧ (¬ (1 : Int) = 0 → Ez md_6_areAlike 0 0 229 [(5, zi l), (0, zr 0), (1, zr 113), (2, zi 1), (3, zi k), (4, zi j)] [] zSp (cmb μ ν) _ _ _)) from ⟨(by omega), fun h => absurd h (by decide), fun _ => ?_⟩)
    refine Az.blk kd_6_areAlike_229 (show (0 ≤ k ∧ k ≤ 2147483647) ∧ (0 < (6 : Int) ∧ (6 : Int) ≤ 2147483647) ∧ Ez md_6_areAlike 0 0 237 [(5, zi l), (0, zr 0), (1, zr 113), (2, zi 1), (3, zi k), (4, zi j)] [zi j, zi (k % 6), zi k, zr 113] zSp (cmb μ ν) _ _ _ from ⟨(by omega), (by omega), ?_⟩)
    refine Az.pV (mc := md_5_letter) (n := 3) (As := [zi k, zi (k % 6), zi j]) (rest := []) (z := (xx_letter ν k (k % 6) j)) kr_6_areAlike_237 zw_554 ok_5_letter rfl rfl rfl trivial rfl (xz_letter R.B' k (k % 6) j (by omega) (by omega) (by omega)) rfl rfl (show Ez md_6_areAlike 0 0 240 [(5, zi l), (0, zr 0), (1, zr 113), (2, zi 1), (3, zi k), (4, zi j)] [zi (xx_letter ν k (k % 6) j)] zSp (cmb μ ν) _ _ _ from ?_)
    refine Az.blk kd_6_areAlike_240 (show zR l ∧ ((¬ l < 0 → Ez md_6_areAlike 0 0 250 [(5, zi l), (0, zr 0), (1, zr 113), (2, zi 1), (3, zi k), (4, zi j)] [zi (xx_letter ν k (k % 6) j)] zSp (cmb μ ν) _ _ _) ∧ (l < 0 → Ez md_6_areAlike 0 0 245 [(5, zi l), (0, zr 0), (1, zr 113), (2, zi 1), (3, zi k), (4, zi j)] [zi (xx_letter ν k (k % 6) j)] zSp (cmb μ ν) _ _ _)) from ⟨(by omega), fun q => ?_, fun q => ?_⟩)
    · refine Az.blk kd_6_areAlike_250 (show Ez md_6_areAlike 0 0 252 [(5, zi l), (0, zr 0), (1, zr 113), (2, zi 1), (3, zi k), (4, zi j)] [zi l, zi (xx_letter ν k (k % 6) j)] zSp (cmb μ ν) _ _ _ from ?_)
      refine Az.cS (mc := md_6_next) (n := 1) (As := [zi l]) (rest := [zi (xx_letter ν k (k % 6) j)]) (Sh1 := zSp) (μ1 := cmb μ ν) (w := some (zi (nxt l))) kr_6_areAlike_252 zw_452 ok_6_next rfl rfl (lz_next l (by omega)) rfl rfl (show Ez md_6_areAlike 0 0 255 [(5, zi l), (0, zr 0), (1, zr 113), (2, zi 1), (3, zi k), (4, zi j)] [zi (nxt l), zi (xx_letter ν k (k % 6) j)] zSp (cmb μ ν) _ _ _ from ?_)
      refine Az.icne (tg := 262) (a := (xx_letter ν k (k % 6) j)) (b := (nxt l)) kr_6_areAlike_255 (by decide) rfl (hl.2 q) (show Ez md_6_areAlike 0 0 258 [(5, zi l), (0, zr 0), (1, zr 113), (2, zi 1), (3, zi k), (4, zi j)] [] zSp (cmb μ ν) _ _ _ from ?_)
      refine Az.blk kd_6_areAlike_258 (show Ez md_6_areAlike 0 0 263 [(5, zi l), (0, zr 0), (1, zr 113), (2, zi 1), (3, zi k), (4, zi j)] [zi 1] zSp (cmb μ ν) _ _ _ from ?_)
      refine Az.blk kd_6_areAlike_263 (show Ez md_6_areAlike 0 0 205 [(4, zi (j + 1)), (2, zi 1), (5, zi l), (0, zr 0), (1, zr 113), (3, zi k)] [] zSp (cmb μ ν) _ _ _ from ?_)
      refine Az.lvs (lv' := [(0, zr 0), (1, zr 113), (2, zi 1), (3, zi k), (4, zi (j + 1))]) ?_ ?_
      · intro q hq; simp only [List.mem_cons, List.not_mem_nil, or_false] at hq; rcases hq with rfl | rfl | rfl | rfl | rfl <;> rfl
      exact ih (j + 1) (by omega) (by omega) kk
    · refine Az.blk kd_6_areAlike_245 (show Ez md_6_areAlike 0 0 255 [(5, zi l), (0, zr 0), (1, zr 113), (2, zi 1), (3, zi k), (4, zi j)] [zi l, zi (xx_letter ν k (k % 6) j)] zSp (cmb μ ν) _ _ _ from ?_)
      refine Az.icne (tg := 262) (a := (xx_letter ν k (k % 6) j)) (b := l) kr_6_areAlike_255 (by decide) rfl (hl.1 q) (show Ez md_6_areAlike 0 0 258 [(5, zi l), (0, zr 0), (1, zr 113), (2, zi 1), (3, zi k), (4, zi j)] [] zSp (cmb μ ν) _ _ _ from ?_)
      refine Az.blk kd_6_areAlike_258 (show Ez md_6_areAlike 0 0 263 [(5, zi l), (0, zr 0), (1, zr 113), (2, zi 1), (3, zi k), (4, zi j)] [zi 1] zSp (cmb μ ν) _ _ _ from ?_)
      refine Az.blk kd_6_areAlike_263 (show Ez md_6_areAlike 0 0 205 [(4, zi (j + 1)), (2, zi 1), (5, zi l), (0, zr 0), (1, zr 113), (3, zi k)] [] zSp (cmb μ ν) _ _ _ from ?_)
      refine Az.lvs (lv' := [(0, zr 0), (1, zr 113), (2, zi 1), (3, zi k), (4, zi (j + 1))]) ?_ ?_
      · intro q hq; simp only [List.mem_cons, List.not_mem_nil, or_false] at hq; rcases hq with rfl | rfl | rfl | rfl | rfl <;> rfl
      exact ih (j + 1) (by omega) (by omega) kk
theorem aa_151 (R : R2 μ ν) : ∀ (d : Nat) (k : Int), 0 ≤ k → k + d = μ 4 0 → ∀ {v : Option zV} {M : zM}, Ez md_6_areAlike 0 0 276 [(0, zr 0), (1, zr 113), (2, zi 1)] [] zSp (cmb μ ν) v zSp M → Ez md_6_areAlike 0 0 151 [(0, zr 0), (1, zr 113), (2, zi 1), (3, zi k)] [] zSp (cmb μ ν) v zSp M := by
  intro d
  induction d with
  | zero =>
    intro k k0 kd v M kk
    have hb := R.N.knb
    refine Az.blk kd_6_areAlike_151 (show Ez md_6_areAlike 0 0 154 [(0, zr 0), (1, zr 113), (2, zi 1), (3, zi k)] [zi 0, zr 0, zi k] zSp (cmb μ ν) _ _ _ from ?_)
    refine Az.oV (mc := md_5_count) (n := 1) (As := [zi 0]) (rest := [zi k]) (z := (xx_count μ 0)) kr_6_areAlike_154 zw_296 ok_5_count rfl rfl rfl trivial rfl (xz_count R.B 0 (by omega)) rfl rfl (show Ez md_6_areAlike 0 0 157 [(0, zr 0), (1, zr 113), (2, zi 1), (3, zi k)] [zi (xx_count μ 0), zi k] zSp (cmb μ ν) _ _ _ from ?_)
    rw [show (xx_count μ 0) = (μ 4 0) from rfl]
    refine Az.blk kd_6_areAlike_157 (show zR k ∧ zR (μ 4 0) ∧ ((¬ k < (μ 4 0) → Ez md_6_areAlike 0 0 276 [(0, zr 0), (1, zr 113), (2, zi 1), (3, zi k)] [] zSp (cmb μ ν) _ _ _) ∧ (k < (μ 4 0) → Ez md_6_areAlike 0 0 160 [(0, zr 0), (1, zr 113), (2, zi 1), (3, zi k)] [] zSp (cmb μ ν) _ _ _)) from ⟨(by omega), (by omega), fun _ => ?_, fun h => absurd h (show ¬ k < μ 4 0 by omega)⟩)
    refine Az.lvs (lv' := [(0, zr 0), (1, zr 113), (2, zi 1)]) ?_ ?_
    · intro q hq; simp only [List.mem_cons, List.not_mem_nil, or_false] at hq; rcases hq with rfl | rfl | rfl <;> rfl
    exact kk
  | succ d ih =>
    intro k k0 kd v M kk
    have hb := R.N.knb
    refine Az.blk kd_6_areAlike_151 (show Ez md_6_areAlike 0 0 154 [(0, zr 0), (1, zr 113), (2, zi 1), (3, zi k)] [zi 0, zr 0, zi k] zSp (cmb μ ν) _ _ _ from ?_)
    refine Az.oV (mc := md_5_count) (n := 1) (As := [zi 0]) (rest := [zi k]) (z := (xx_count μ 0)) kr_6_areAlike_154 zw_296 ok_5_count rfl rfl rfl trivial rfl (xz_count R.B 0 (by omega)) rfl rfl (show Ez md_6_areAlike 0 0 157 [(0, zr 0), (1, zr 113), (2, zi 1), (3, zi k)] [zi (xx_count μ 0), zi k] zSp (cmb μ ν) _ _ _ from ?_)
    rw [show (xx_count μ 0) = (μ 4 0) from rfl]
    refine Az.blk kd_6_areAlike_157 (show zR k ∧ zR (μ 4 0) ∧ ((¬ k < (μ 4 0) → Ez md_6_areAlike 0 0 276 [(0, zr 0), (1, zr 113), (2, zi 1), (3, zi k)] [] zSp (cmb μ ν) _ _ _) ∧ (k < (μ 4 0) → Ez md_6_areAlike 0 0 160 [(0, zr 0), (1, zr 113), (2, zi 1), (3, zi k)] [] zSp (cmb μ ν) _ _ _)) from ⟨(by omega), (by omega), fun h => absurd (show k < μ 4 0 by omega) h, fun _ => ?_⟩)
    refine Az.blk kd_6_areAlike_160 (show Ez md_6_areAlike 0 0 163 [(4, zi 0), (0, zr 0), (1, zr 113), (2, zi 1), (3, zi k)] [] zSp (cmb μ ν) _ _ _ from ?_)
    refine Az.lvs (lv' := [(0, zr 0), (1, zr 113), (2, zi 1), (3, zi k), (4, zi 0)]) ?_ ?_
    · intro q hq; simp only [List.mem_cons, List.not_mem_nil, or_false] at hq; rcases hq with rfl | rfl | rfl | rfl | rfl <;> rfl
    refine aa_163 R k0 (by omega) 4 0 (by decide) (by decide) ?_
    refine Az.blk kd_6_areAlike_202 (show Ez md_6_areAlike 0 0 205 [(4, zi 0), (0, zr 0), (1, zr 113), (2, zi 1), (3, zi k)] [] zSp (cmb μ ν) _ _ _ from ?_)
    refine Az.lvs (lv' := [(0, zr 0), (1, zr 113), (2, zi 1), (3, zi k), (4, zi 0)]) ?_ ?_
    · intro q hq; simp only [List.mem_cons, List.not_mem_nil, or_false] at hq; rcases hq with rfl | rfl | rfl | rfl | rfl <;> rfl
    refine aa_205 R k0 (by omega) 10 0 (by decide) (by decide) ?_
    refine Az.blk kd_6_areAlike_270 (show Ez md_6_areAlike 0 0 151 [(3, zi (k + 1)), (0, zr 0), (1, zr 113), (2, zi 1)] [] zSp (cmb μ ν) _ _ _ from ?_)
    refine Az.lvs (lv' := [(0, zr 0), (1, zr 113), (2, zi 1), (3, zi (k + 1))]) ?_ ?_
    · intro q hq; simp only [List.mem_cons, List.not_mem_nil, or_false] at hq; rcases hq with rfl | rfl | rfl | rfl <;> rfl
    exact ih (k + 1) (by omega) (by omega) kk
theorem aa_287 (R : R2 μ ν) {k : Int} (h0 : 0 ≤ k) (h1 : k < 10) : ∀ (d : Nat) (j : Int), 0 ≤ j → j + d = 6 → ∀ {v : Option zV} {M : zM}, Ez md_6_areAlike 0 0 330 [(0, zr 0), (1, zr 113), (2, zi 1), (3, zi k)] [] zSp (cmb μ ν) v zSp M → Ez md_6_areAlike 0 0 287 [(0, zr 0), (1, zr 113), (2, zi 1), (3, zi k), (4, zi j)] [] zSp (cmb μ ν) v zSp M := by
  intro d
  induction d with
  | zero =>
    intro j k0 kd v M kk
    refine Az.blk kd_6_areAlike_287 (show zR j ∧ zR 6 ∧ ((¬ j < 6 → Ez md_6_areAlike 0 0 330 [(0, zr 0), (1, zr 113), (2, zi 1), (3, zi k), (4, zi j)] [] zSp (cmb μ ν) _ _ _) ∧ (j < 6 → Ez md_6_areAlike 0 0 294 [(0, zr 0), (1, zr 113), (2, zi 1), (3, zi k), (4, zi j)] [] zSp (cmb μ ν) _ _ _)) from ⟨(by omega), (by omega), fun _ => ?_, fun h => absurd h (show ¬ j < 6 by omega)⟩)
    refine Az.lvs (lv' := [(0, zr 0), (1, zr 113), (2, zi 1), (3, zi k)]) ?_ ?_
    · intro q hq; simp only [List.mem_cons, List.not_mem_nil, or_false] at hq; rcases hq with rfl | rfl | rfl | rfl <;> rfl
    exact kk
  | succ d ih =>
    intro j k0 kd v M kk
    refine Az.blk kd_6_areAlike_287 (show zR j ∧ zR 6 ∧ ((¬ j < 6 → Ez md_6_areAlike 0 0 330 [(0, zr 0), (1, zr 113), (2, zi 1), (3, zi k), (4, zi j)] [] zSp (cmb μ ν) _ _ _) ∧ (j < 6 → Ez md_6_areAlike 0 0 294 [(0, zr 0), (1, zr 113), (2, zi 1), (3, zi k), (4, zi j)] [] zSp (cmb μ ν) _ _ _)) from ⟨(by omega), (by omega), fun h => absurd (show j < 6 by omega) h, fun _ => ?_⟩)
    refine Az.blk kd_6_areAlike_294 (show zR 1 ∧ (((1 : Int) = 0 → Ez md_6_areAlike 0 0 322 [(0, zr 0), (1, zr 113), (2, zi 1), (3, zi k), (4, zi j)] [] zSp (cmb μ ν) _ _ _) ∧ (¬ (1 : Int) = 0 → Ez md_6_areAlike 0 0 298 [(0, zr 0), (1, zr 113), (2, zi 1), (3, zi k), (4, zi j)] [] zSp (cmb μ ν) _ _ _)) from ⟨(by omega), fun h => absurd h (by decide), fun _ => ?_⟩)
    refine Az.blk kd_6_areAlike_298 (show Ez md_6_areAlike 0 0 302 [(0, zr 0), (1, zr 113), (2, zi 1), (3, zi k), (4, zi j)] [zi j, zi k, zr 0] zSp (cmb μ ν) _ _ _ from ?_)
    refine Az.oV (mc := md_5_tie) (n := 2) (As := [zi k, zi j]) (rest := []) (z := (xx_tie μ k j)) kr_6_areAlike_302 zw_455 ok_5_tie rfl rfl rfl trivial rfl (xz_tie R.B k j (by omega) (by omega)) rfl rfl (show Ez md_6_areAlike 0 0 305 [(0, zr 0), (1, zr 113), (2, zi 1), (3, zi k), (4, zi j)] [zi (xx_tie μ k j)] zSp (cmb μ ν) _ _ _ from ?_)
    refine Az.blk kd_6_areAlike_305 (show Ez md_6_areAlike 0 0 312 [(0, zr 0), (1, zr 113), (2, zi 1), (3, zi k), (4, zi j)] [zi j, zi (9 - k), zr 113, zi (xx_tie μ k j)] zSp (cmb μ ν) _ _ _ from ?_)
    refine Az.pV (mc := md_5_tie) (n := 2) (As := [zi (9 - k), zi j]) (rest := [zi (xx_tie μ k j)]) (z := (xx_tie ν (9 - k) j)) kr_6_areAlike_312 zw_455 ok_5_tie rfl rfl rfl trivial rfl (xz_tie R.B' (9 - k) j (by omega) (by omega)) rfl rfl (show Ez md_6_areAlike 0 0 315 [(0, zr 0), (1, zr 113), (2, zi 1), (3, zi k), (4, zi j)] [zi (xx_tie ν (9 - k) j), zi (xx_tie μ k j)] zSp (cmb μ ν) _ _ _ from ?_)
    refine Az.icne (tg := 322) (a := (xx_tie μ k j)) (b := (xx_tie ν (9 - k) j)) kr_6_areAlike_315 (by decide) rfl ((al_tie R.N j h0 (by omega)).symm) (show Ez md_6_areAlike 0 0 318 [(0, zr 0), (1, zr 113), (2, zi 1), (3, zi k), (4, zi j)] [] zSp (cmb μ ν) _ _ _ from ?_)
    refine Az.blk kd_6_areAlike_318 (show Ez md_6_areAlike 0 0 323 [(0, zr 0), (1, zr 113), (2, zi 1), (3, zi k), (4, zi j)] [zi 1] zSp (cmb μ ν) _ _ _ from ?_)
    refine Az.blk kd_6_areAlike_323 (show Ez md_6_areAlike 0 0 287 [(4, zi (j + 1)), (2, zi 1), (0, zr 0), (1, zr 113), (3, zi k)] [] zSp (cmb μ ν) _ _ _ from ?_)
    refine Az.lvs (lv' := [(0, zr 0), (1, zr 113), (2, zi 1), (3, zi k), (4, zi (j + 1))]) ?_ ?_
    · intro q hq; simp only [List.mem_cons, List.not_mem_nil, or_false] at hq; rcases hq with rfl | rfl | rfl | rfl | rfl <;> rfl
    exact ih (j + 1) (by omega) (by omega) kk
theorem aa_278 (R : R2 μ ν) : ∀ (d : Nat) (k : Int), 0 ≤ k → k + d = 10 → ∀ {v : Option zV} {M : zM}, Ez md_6_areAlike 0 0 382 [(0, zr 0), (1, zr 113), (2, zi 1)] [] zSp (cmb μ ν) v zSp M → Ez md_6_areAlike 0 0 278 [(0, zr 0), (1, zr 113), (2, zi 1), (3, zi k)] [] zSp (cmb μ ν) v zSp M := by
  intro d
  induction d with
  | zero =>
    intro k k0 kd v M kk
    refine Az.blk kd_6_areAlike_278 (show zR k ∧ zR 10 ∧ ((¬ k < 10 → Ez md_6_areAlike 0 0 382 [(0, zr 0), (1, zr 113), (2, zi 1), (3, zi k)] [] zSp (cmb μ ν) _ _ _) ∧ (k < 10 → Ez md_6_areAlike 0 0 284 [(0, zr 0), (1, zr 113), (2, zi 1), (3, zi k)] [] zSp (cmb μ ν) _ _ _)) from ⟨(by omega), (by omega), fun _ => ?_, fun h => absurd h (show ¬ k < 10 by omega)⟩)
    refine Az.lvs (lv' := [(0, zr 0), (1, zr 113), (2, zi 1)]) ?_ ?_
    · intro q hq; simp only [List.mem_cons, List.not_mem_nil, or_false] at hq; rcases hq with rfl | rfl | rfl <;> rfl
    exact kk
  | succ d ih =>
    intro k k0 kd v M kk
    refine Az.blk kd_6_areAlike_278 (show zR k ∧ zR 10 ∧ ((¬ k < 10 → Ez md_6_areAlike 0 0 382 [(0, zr 0), (1, zr 113), (2, zi 1), (3, zi k)] [] zSp (cmb μ ν) _ _ _) ∧ (k < 10 → Ez md_6_areAlike 0 0 284 [(0, zr 0), (1, zr 113), (2, zi 1), (3, zi k)] [] zSp (cmb μ ν) _ _ _)) from ⟨(by omega), (by omega), fun h => absurd (show k < 10 by omega) h, fun _ => ?_⟩)
    refine Az.blk kd_6_areAlike_284 (show Ez md_6_areAlike 0 0 287 [(4, zi 0), (0, zr 0), (1, zr 113), (2, zi 1), (3, zi k)] [] zSp (cmb μ ν) _ _ _ from ?_)
    refine Az.lvs (lv' := [(0, zr 0), (1, zr 113), (2, zi 1), (3, zi k), (4, zi 0)]) ?_ ?_
    · intro q hq; simp only [List.mem_cons, List.not_mem_nil, or_false] at hq; rcases hq with rfl | rfl | rfl | rfl | rfl <;> rfl
    refine aa_287 R k0 (by omega) 6 0 (by decide) (by decide) ?_
    refine Az.blk kd_6_areAlike_330 (show zR 1 ∧ (((1 : Int) = 0 → Ez md_6_areAlike 0 0 374 [(0, zr 0), (1, zr 113), (2, zi 1), (3, zi k)] [] zSp (cmb μ ν) _ _ _) ∧ (¬ (1 : Int) = 0 → Ez md_6_areAlike 0 0 334 [(0, zr 0), (1, zr 113), (2, zi 1), (3, zi k)] [] zSp (cmb μ ν) _ _ _)) from ⟨(by omega), fun h => absurd h (by decide), fun _ => ?_⟩)
    refine Az.blk kd_6_areAlike_334 (show Ez md_6_areAlike 0 0 337 [(0, zr 0), (1, zr 113), (2, zi 1), (3, zi k)] [zi 1, zi k, zr 0] zSp (cmb μ ν) _ _ _ from ?_)
    refine Az.oV (mc := md_5_tieCould) (n := 2) (As := [zi k, zi 1]) (rest := []) (z := (xx_tieCould μ k 1)) kr_6_areAlike_337 zw_562 ok_5_tieCould rfl rfl rfl trivial rfl (xz_tieCould R.B k 1 (by omega) (by omega)) rfl rfl (show Ez md_6_areAlike 0 0 340 [(0, zr 0), (1, zr 113), (2, zi 1), (3, zi k)] [zi (xx_tieCould μ k 1)] zSp (cmb μ ν) _ _ _ from ?_)
    refine Az.blk kd_6_areAlike_340 (show Ez md_6_areAlike 0 0 346 [(0, zr 0), (1, zr 113), (2, zi 1), (3, zi k)] [zi 1, zi (9 - k), zr 113, zi (xx_tieCould μ k 1)] zSp (cmb μ ν) _ _ _ from ?_)
    refine Az.pV (mc := md_5_tieCould) (n := 2) (As := [zi (9 - k), zi 1]) (rest := [zi (xx_tieCould μ k 1)]) (z := (xx_tieCould ν (9 - k) 1)) kr_6_areAlike_346 zw_562 ok_5_tieCould rfl rfl rfl trivial rfl (xz_tieCould R.B' (9 - k) 1 (by omega) (by omega)) rfl rfl (show Ez md_6_areAlike 0 0 349 [(0, zr 0), (1, zr 113), (2, zi 1), (3, zi k)] [zi (xx_tieCould ν (9 - k) 1), zi (xx_tieCould μ k 1)] zSp (cmb μ ν) _ _ _ from ?_)
    refine Az.icne (tg := 374) (a := (xx_tieCould μ k 1)) (b := (xx_tieCould ν (9 - k) 1)) kr_6_areAlike_349 (by decide) rfl ((al_tieCould R.N 1 k0 (by omega)).symm) (show Ez md_6_areAlike 0 0 352 [(0, zr 0), (1, zr 113), (2, zi 1), (3, zi k)] [] zSp (cmb μ ν) _ _ _ from ?_)
    refine Az.blk kd_6_areAlike_352 (show Ez md_6_areAlike 0 0 355 [(0, zr 0), (1, zr 113), (2, zi 1), (3, zi k)] [zi 0, zi k, zr 0] zSp (cmb μ ν) _ _ _ from ?_)
    refine Az.oV (mc := md_5_tieCould) (n := 2) (As := [zi k, zi 0]) (rest := []) (z := (xx_tieCould μ k 0)) kr_6_areAlike_355 zw_562 ok_5_tieCould rfl rfl rfl trivial rfl (xz_tieCould R.B k 0 (by omega) (by omega)) rfl rfl (show Ez md_6_areAlike 0 0 358 [(0, zr 0), (1, zr 113), (2, zi 1), (3, zi k)] [zi (xx_tieCould μ k 0)] zSp (cmb μ ν) _ _ _ from ?_)
    refine Az.blk kd_6_areAlike_358 (show Ez md_6_areAlike 0 0 364 [(0, zr 0), (1, zr 113), (2, zi 1), (3, zi k)] [zi 0, zi (9 - k), zr 113, zi (xx_tieCould μ k 0)] zSp (cmb μ ν) _ _ _ from ?_)
    refine Az.pV (mc := md_5_tieCould) (n := 2) (As := [zi (9 - k), zi 0]) (rest := [zi (xx_tieCould μ k 0)]) (z := (xx_tieCould ν (9 - k) 0)) kr_6_areAlike_364 zw_562 ok_5_tieCould rfl rfl rfl trivial rfl (xz_tieCould R.B' (9 - k) 0 (by omega) (by omega)) rfl rfl (show Ez md_6_areAlike 0 0 367 [(0, zr 0), (1, zr 113), (2, zi 1), (3, zi k)] [zi (xx_tieCould ν (9 - k) 0), zi (xx_tieCould μ k 0)] zSp (cmb μ ν) _ _ _ from ?_)
    refine Az.icne (tg := 374) (a := (xx_tieCould μ k 0)) (b := (xx_tieCould ν (9 - k) 0)) kr_6_areAlike_367 (by decide) rfl ((al_tieCould R.N 0 k0 (by omega)).symm) (show Ez md_6_areAlike 0 0 370 [(0, zr 0), (1, zr 113), (2, zi 1), (3, zi k)] [] zSp (cmb μ ν) _ _ _ from ?_)
    refine Az.blk kd_6_areAlike_370 (show Ez md_6_areAlike 0 0 375 [(0, zr 0), (1, zr 113), (2, zi 1), (3, zi k)] [zi 1] zSp (cmb μ ν) _ _ _ from ?_)
    refine Az.blk kd_6_areAlike_375 (show Ez md_6_areAlike 0 0 278 [(3, zi (k + 1)), (2, zi 1), (0, zr 0), (1, zr 113)] [] zSp (cmb μ ν) _ _ _ from ?_)
    refine Az.lvs (lv' := [(0, zr 0), (1, zr 113), (2, zi 1), (3, zi (k + 1))]) ?_ ?_
    · intro q hq; simp only [List.mem_cons, List.not_mem_nil, or_false] at hq; rcases hq with rfl | rfl | rfl | rfl <;> rfl
    exact ih (k + 1) (by omega) (by omega) kk
theorem aa_384 (R : R2 μ ν) {U : Int} (hU : U = xx_count μ 4) (hr : 0 ≤ U ∧ U ≤ 220) : ∀ (d : Nat) (k : Int), 0 ≤ k → k + d = U + 1 → Ez md_6_areAlike 0 0 384 [(0, zr 0), (1, zr 113), (2, zi 1), (3, zi k)] [] zSp (cmb μ ν) (some (zi 1)) zSp (cmb μ ν) := by
  intro d
  induction d with
  | zero =>
    intro k k0 kd
    refine Az.blk kd_6_areAlike_384 (show Ez md_6_areAlike 0 0 387 [(0, zr 0), (1, zr 113), (2, zi 1), (3, zi k)] [zi 4, zr 0, zi k] zSp (cmb μ ν) _ _ _ from ?_)
    refine Az.oV (mc := md_5_count) (n := 1) (As := [zi 4]) (rest := [zi k]) (z := (xx_count μ 4)) kr_6_areAlike_387 zw_296 ok_5_count rfl rfl rfl trivial rfl (xz_count R.B 4 (by omega)) rfl rfl (show Ez md_6_areAlike 0 0 390 [(0, zr 0), (1, zr 113), (2, zi 1), (3, zi k)] [zi (xx_count μ 4), zi k] zSp (cmb μ ν) _ _ _ from ?_)
    rw [show (xx_count μ 4) = U from hU.symm]
    refine Az.blk kd_6_areAlike_390 (show zR k ∧ zR U ∧ ((U < k → Ez md_6_areAlike 0 0 452 [(0, zr 0), (1, zr 113), (2, zi 1), (3, zi k)] [] zSp (cmb μ ν) _ _ _) ∧ (¬ U < k → Ez md_6_areAlike 0 0 393 [(0, zr 0), (1, zr 113), (2, zi 1), (3, zi k)] [] zSp (cmb μ ν) _ _ _)) from ⟨(by omega), (by omega), fun _ => ?_, fun h => absurd (show U < k by omega) h⟩)
    refine Az.blk kd_6_areAlike_452 (show Ez md_6_areAlike 0 0 453 [(0, zr 0), (1, zr 113), (2, zi 1), (3, zi k)] [zi 1] zSp (cmb μ ν) _ _ _ from ?_)
    exact Ez.zret kr_6_areAlike_453 rfl (Nat.zero_le _) (Nat.zero_le _) (Or.inr rfl) rfl rfl
  | succ d ih =>
    intro k k0 kd
    have ht := al_told R.N k0
    have tr := told_r R.B (a1 := k) (by omega)
    obtain ⟨l, hv⟩ : ∃ l, l = xx_told μ k := ⟨_, rfl⟩
    rw [← hv] at ht tr
    refine Az.blk kd_6_areAlike_384 (show Ez md_6_areAlike 0 0 387 [(0, zr 0), (1, zr 113), (2, zi 1), (3, zi k)] [zi 4, zr 0, zi k] zSp (cmb μ ν) _ _ _ from ?_)
    refine Az.oV (mc := md_5_count) (n := 1) (As := [zi 4]) (rest := [zi k]) (z := (xx_count μ 4)) kr_6_areAlike_387 zw_296 ok_5_count rfl rfl rfl trivial rfl (xz_count R.B 4 (by omega)) rfl rfl (show Ez md_6_areAlike 0 0 390 [(0, zr 0), (1, zr 113), (2, zi 1), (3, zi k)] [zi (xx_count μ 4), zi k] zSp (cmb μ ν) _ _ _ from ?_)
    rw [show (xx_count μ 4) = U from hU.symm]
    refine Az.blk kd_6_areAlike_390 (show zR k ∧ zR U ∧ ((U < k → Ez md_6_areAlike 0 0 452 [(0, zr 0), (1, zr 113), (2, zi 1), (3, zi k)] [] zSp (cmb μ ν) _ _ _) ∧ (¬ U < k → Ez md_6_areAlike 0 0 393 [(0, zr 0), (1, zr 113), (2, zi 1), (3, zi k)] [] zSp (cmb μ ν) _ _ _)) from ⟨(by omega), (by omega), fun h => absurd h (show ¬ U < k by omega), fun _ => ?_⟩)
    refine Az.blk kd_6_areAlike_393 (show Ez md_6_areAlike 0 0 395 [(0, zr 0), (1, zr 113), (2, zi 1), (3, zi k)] [zi k, zr 0] zSp (cmb μ ν) _ _ _ from ?_)
    refine Az.oV (mc := md_5_told) (n := 1) (As := [zi k]) (rest := []) (z := (xx_told μ k)) kr_6_areAlike_395 zw_586 ok_5_told rfl rfl rfl trivial rfl (xz_told R.B k (by omega)) rfl rfl (show Ez md_6_areAlike 0 0 398 [(0, zr 0), (1, zr 113), (2, zi 1), (3, zi k)] [zi (xx_told μ k)] zSp (cmb μ ν) _ _ _ from ?_)
    rw [show (xx_told μ k) = l from hv.symm]
    refine Az.blk kd_6_areAlike_398 (show zR 1 ∧ (((1 : Int) = 0 → Ez md_6_areAlike 0 0 444 [(4, zi l), (0, zr 0), (1, zr 113), (2, zi 1), (3, zi k)] [] zSp (cmb μ ν) _ _ _) ∧ (¬ (1 : Int) = 0 → Ez md_6_areAlike 0 0 404 [(4, zi l), (0, zr 0), (1, zr 113), (2, zi 1), (3, zi k)] [] zSp (cmb μ ν) _ _ _)) from ⟨(by omega), fun h => absurd h (by decide), fun _ => ?_⟩)
    refine Az.blk kd_6_areAlike_404 (show Ez md_6_areAlike 0 0 406 [(4, zi l), (0, zr 0), (1, zr 113), (2, zi 1), (3, zi k)] [zi k, zr 113] zSp (cmb μ ν) _ _ _ from ?_)
    refine Az.pV (mc := md_5_told) (n := 1) (As := [zi k]) (rest := []) (z := (xx_told ν k)) kr_6_areAlike_406 zw_586 ok_5_told rfl rfl rfl trivial rfl (xz_told R.B' k (by omega)) rfl rfl (show Ez md_6_areAlike 0 0 409 [(4, zi l), (0, zr 0), (1, zr 113), (2, zi 1), (3, zi k)] [zi (xx_told ν k)] zSp (cmb μ ν) _ _ _ from ?_)
    refine Az.blk kd_6_areAlike_409 (show zR l ∧ zR 97 ∧ ((¬ l < 97 → Ez md_6_areAlike 0 0 421 [(4, zi l), (0, zr 0), (1, zr 113), (2, zi 1), (3, zi k)] [zi (xx_told ν k)] zSp (cmb μ ν) _ _ _) ∧ (l < 97 → Ez md_6_areAlike 0 0 416 [(4, zi l), (0, zr 0), (1, zr 113), (2, zi 1), (3, zi k)] [zi (xx_told ν k)] zSp (cmb μ ν) _ _ _)) from ⟨(by omega), (by omega), fun q1 => ?_, fun q1 => ?_⟩)
    · refine Az.blk kd_6_areAlike_421 (show zR l ∧ zR 122 ∧ ((¬ l = 122 → Ez md_6_areAlike 0 0 433 [(4, zi l), (0, zr 0), (1, zr 113), (2, zi 1), (3, zi k)] [zi (xx_told ν k)] zSp (cmb μ ν) _ _ _) ∧ (l = 122 → Ez md_6_areAlike 0 0 428 [(4, zi l), (0, zr 0), (1, zr 113), (2, zi 1), (3, zi k)] [zi (xx_told ν k)] zSp (cmb μ ν) _ _ _)) from ⟨(by omega), (by omega), fun q2 => ?_, fun q2 => ?_⟩)
      · refine Az.blk kd_6_areAlike_433 (show Ez md_6_areAlike 0 0 437 [(4, zi l), (0, zr 0), (1, zr 113), (2, zi 1), (3, zi k)] [zi (l + 1), zi (xx_told ν k)] zSp (cmb μ ν) _ _ _ from ?_)
        refine Az.icne (tg := 444) (a := (xx_told ν k)) (b := (l + 1)) kr_6_areAlike_437 (by decide) rfl (by rw [ht]; unfold nsg; rw [if_neg q1, if_neg q2]) (show Ez md_6_areAlike 0 0 440 [(4, zi l), (0, zr 0), (1, zr 113), (2, zi 1), (3, zi k)] [] zSp (cmb μ ν) _ _ _ from ?_)
        refine Az.blk kd_6_areAlike_440 (show Ez md_6_areAlike 0 0 445 [(4, zi l), (0, zr 0), (1, zr 113), (2, zi 1), (3, zi k)] [zi 1] zSp (cmb μ ν) _ _ _ from ?_)
        refine Az.blk kd_6_areAlike_445 (show Ez md_6_areAlike 0 0 384 [(3, zi (k + 1)), (2, zi 1), (4, zi l), (0, zr 0), (1, zr 113)] [] zSp (cmb μ ν) _ _ _ from ?_)
        refine Az.lvs (lv' := [(0, zr 0), (1, zr 113), (2, zi 1), (3, zi (k + 1))]) ?_ ?_
        · intro q hq; simp only [List.mem_cons, List.not_mem_nil, or_false] at hq; rcases hq with rfl | rfl | rfl | rfl <;> rfl
        exact ih (k + 1) (by omega) (by omega)
      · refine Az.blk kd_6_areAlike_428 (show Ez md_6_areAlike 0 0 437 [(4, zi l), (0, zr 0), (1, zr 113), (2, zi 1), (3, zi k)] [zi 97, zi (xx_told ν k)] zSp (cmb μ ν) _ _ _ from ?_)
        refine Az.icne (tg := 444) (a := (xx_told ν k)) (b := 97) kr_6_areAlike_437 (by decide) rfl (by rw [ht]; unfold nsg; rw [if_neg q1, if_pos q2]) (show Ez md_6_areAlike 0 0 440 [(4, zi l), (0, zr 0), (1, zr 113), (2, zi 1), (3, zi k)] [] zSp (cmb μ ν) _ _ _ from ?_)
        refine Az.blk kd_6_areAlike_440 (show Ez md_6_areAlike 0 0 445 [(4, zi l), (0, zr 0), (1, zr 113), (2, zi 1), (3, zi k)] [zi 1] zSp (cmb μ ν) _ _ _ from ?_)
        refine Az.blk kd_6_areAlike_445 (show Ez md_6_areAlike 0 0 384 [(3, zi (k + 1)), (2, zi 1), (4, zi l), (0, zr 0), (1, zr 113)] [] zSp (cmb μ ν) _ _ _ from ?_)
        refine Az.lvs (lv' := [(0, zr 0), (1, zr 113), (2, zi 1), (3, zi (k + 1))]) ?_ ?_
        · intro q hq; simp only [List.mem_cons, List.not_mem_nil, or_false] at hq; rcases hq with rfl | rfl | rfl | rfl <;> rfl
        exact ih (k + 1) (by omega) (by omega)
    · refine Az.blk kd_6_areAlike_416 (show Ez md_6_areAlike 0 0 437 [(4, zi l), (0, zr 0), (1, zr 113), (2, zi 1), (3, zi k)] [zi l, zi (xx_told ν k)] zSp (cmb μ ν) _ _ _ from ?_)
      refine Az.icne (tg := 444) (a := (xx_told ν k)) (b := l) kr_6_areAlike_437 (by decide) rfl (by rw [ht]; unfold nsg; rw [if_pos q1]) (show Ez md_6_areAlike 0 0 440 [(4, zi l), (0, zr 0), (1, zr 113), (2, zi 1), (3, zi k)] [] zSp (cmb μ ν) _ _ _ from ?_)
      refine Az.blk kd_6_areAlike_440 (show Ez md_6_areAlike 0 0 445 [(4, zi l), (0, zr 0), (1, zr 113), (2, zi 1), (3, zi k)] [zi 1] zSp (cmb μ ν) _ _ _ from ?_)
      refine Az.blk kd_6_areAlike_445 (show Ez md_6_areAlike 0 0 384 [(3, zi (k + 1)), (2, zi 1), (4, zi l), (0, zr 0), (1, zr 113)] [] zSp (cmb μ ν) _ _ _ from ?_)
      refine Az.lvs (lv' := [(0, zr 0), (1, zr 113), (2, zi 1), (3, zi (k + 1))]) ?_ ?_
      · intro q hq; simp only [List.mem_cons, List.not_mem_nil, or_false] at hq; rcases hq with rfl | rfl | rfl | rfl <;> rfl
      exact ih (k + 1) (by omega) (by omega)
theorem lz_areAlike (R : R2 μ ν) : Dz md_6_areAlike [zr 0, zr 113] zSp (cmb μ ν) (some (zi 1)) zSp (cmb μ ν) := by
  have hb := R.N.hob
  have kb := R.N.knb
  have cb := cr R.B R.N
  refine Dz.of (by decide) rfl rfl (show Ez md_6_areAlike 0 0 0 [(0, zr 0), (1, zr 113)] [] zSp (cmb μ ν) _ zSp _ from ?_)
  refine Az.blk kd_6_areAlike_0 (show Ez md_6_areAlike 0 0 4 [(3, zi 0), (2, zi 1), (0, zr 0), (1, zr 113)] [] zSp (cmb μ ν) _ _ _ from ?_)
  refine Az.lvs (lv' := [(0, zr 0), (1, zr 113), (2, zi 1), (3, zi 0)]) ?_ ?_
  · intro q hq; simp only [List.mem_cons, List.not_mem_nil, or_false] at hq; rcases hq with rfl | rfl | rfl | rfl <;> rfl
  refine aa_4 R 9 0 (by decide) (by decide) ?_
  refine Az.blk kd_6_areAlike_39 (show Ez md_6_areAlike 0 0 41 [(3, zi 0), (0, zr 0), (1, zr 113), (2, zi 1)] [] zSp (cmb μ ν) _ _ _ from ?_)
  refine Az.lvs (lv' := [(0, zr 0), (1, zr 113), (2, zi 1), (3, zi 0)]) ?_ ?_
  · intro q hq; simp only [List.mem_cons, List.not_mem_nil, or_false] at hq; rcases hq with rfl | rfl | rfl | rfl <;> rfl
  refine aa_41 R (μ 10 1).toNat 0 (by decide) (by omega) ?_
  refine Az.blk kd_6_areAlike_149 (show Ez md_6_areAlike 0 0 151 [(3, zi 0), (0, zr 0), (1, zr 113), (2, zi 1)] [] zSp (cmb μ ν) _ _ _ from ?_)
  refine Az.lvs (lv' := [(0, zr 0), (1, zr 113), (2, zi 1), (3, zi 0)]) ?_ ?_
  · intro q hq; simp only [List.mem_cons, List.not_mem_nil, or_false] at hq; rcases hq with rfl | rfl | rfl | rfl <;> rfl
  refine aa_151 R (μ 4 0).toNat 0 (by decide) (by omega) ?_
  refine Az.blk kd_6_areAlike_276 (show Ez md_6_areAlike 0 0 278 [(3, zi 0), (0, zr 0), (1, zr 113), (2, zi 1)] [] zSp (cmb μ ν) _ _ _ from ?_)
  refine Az.lvs (lv' := [(0, zr 0), (1, zr 113), (2, zi 1), (3, zi 0)]) ?_ ?_
  · intro q hq; simp only [List.mem_cons, List.not_mem_nil, or_false] at hq; rcases hq with rfl | rfl | rfl | rfl <;> rfl
  refine aa_278 R 10 0 (by decide) (by decide) ?_
  refine Az.blk kd_6_areAlike_382 (show Ez md_6_areAlike 0 0 384 [(3, zi 0), (0, zr 0), (1, zr 113), (2, zi 1)] [] zSp (cmb μ ν) _ _ _ from ?_)
  refine Az.lvs (lv' := [(0, zr 0), (1, zr 113), (2, zi 1), (3, zi 0)]) ?_ ?_
  · intro q hq; simp only [List.mem_cons, List.not_mem_nil, or_false] at hq; rcases hq with rfl | rfl | rfl | rfl <;> rfl
  exact aa_384 R rfl cb.2.2.2.2.1 ((xx_count μ 4).toNat + 1) 0 (by decide) (by omega)
end LAWS
