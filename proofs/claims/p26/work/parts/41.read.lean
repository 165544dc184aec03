/-! isRead -/
def kb_6_isRead_104 : List zI := [(.iload 9, 2, 0, 0), (.iload 8, 2, 0, 0), (.iconst 2, 1, 0, 0), (.ishr, 1, 0, 0), (.iconst 4, 1, 0, 0)]
theorem kd_6_isRead_104 : zdec md_6_isRead 104 kb_6_isRead_104 = true := by decide +kernel
theorem kr_6_isRead_111 : decode md_6_isRead.2.1 111 = .ok (.invokestatic 19, 3) := by decide +kernel
def kb_6_isRead_114 : List zI := [(.if_icmp .gt 39, 3, 153, 0)]
theorem kd_6_isRead_114 : zdec md_6_isRead 114 kb_6_isRead_114 = true := by decide +kernel
def kb_6_isRead_117 : List zI := [(.iload 4, 2, 0, 0), (.ifCond .eq 25, 3, 144, 0)]
theorem kd_6_isRead_117 : zdec md_6_isRead 117 kb_6_isRead_117 = true := by decide +kernel
def kb_6_isRead_122 : List zI := [(.aload_n 0, 1, 0, 0), (.aload_n 1, 1, 0, 0), (.iload 8, 2, 0, 0), (.iload 9, 2, 0, 0), (.ishr, 1, 0, 0), (.bipush 26, 2, 0, 0)]
theorem kd_6_isRead_122 : zdec md_6_isRead 122 kb_6_isRead_122 = true := by decide +kernel
theorem kr_6_isRead_131 : decode md_6_isRead.2.1 131 = .ok (.invokestatic 19, 3) := by decide +kernel
theorem kr_6_isRead_134 : decode md_6_isRead.2.1 134 = .ok (.invokestatic 25, 3) := by decide +kernel
def kb_6_isRead_137 : List zI := [(.ifCond .eq 7, 3, 144, 0)]
theorem kd_6_isRead_137 : zdec md_6_isRead 137 kb_6_isRead_137 = true := by decide +kernel
def kb_6_isRead_140 : List zI := [(.iconst 1, 1, 0, 0), (.goto 4, 3, 145, 0)]
theorem kd_6_isRead_140 : zdec md_6_isRead 140 kb_6_isRead_140 = true := by decide +kernel
def kb_6_isRead_145 : List zI := [(.istore 4, 2, 0, 0), (.iinc 9 1, 3, 0, 0), (.goto (-46), 3, 104, 0)]
theorem kd_6_isRead_145 : zdec md_6_isRead 145 kb_6_isRead_145 = true := by decide +kernel
def kb_6_isRead_37 : List zI := [(.iload 7, 2, 0, 0), (.iload 5, 2, 0, 0), (.if_icmp .ge 245, 3, 286, 0)]
theorem kd_6_isRead_37 : zdec md_6_isRead 37 kb_6_isRead_37 = true := by decide +kernel
def kb_6_isRead_44 : List zI := [(.iload_n 2, 1, 0, 0), (.iload 7, 2, 0, 0), (.ishr, 1, 0, 0), (.iload_n 3, 1, 0, 0), (.iconst 2, 1, 0, 0), (.iload 7, 2, 0, 0), (.imul, 1, 0, 0), (.ishr, 1, 0, 0), (.ixor, 1, 0, 0), (.istore 8, 2, 0, 0), (.iload 4, 2, 0, 0), (.ifCond .eq 30, 3, 89, 0)]
theorem kd_6_isRead_44 : zdec md_6_isRead 44 kb_6_isRead_44 = true := by decide +kernel
def kb_6_isRead_62 : List zI := [(.iload 7, 2, 0, 0), (.ifCond .eq 21, 3, 85, 0)]
theorem kd_6_isRead_62 : zdec md_6_isRead 62 kb_6_isRead_62 = true := by decide +kernel
def kb_6_isRead_85 : List zI := [(.iconst 1, 1, 0, 0), (.goto 4, 3, 90, 0)]
theorem kd_6_isRead_85 : zdec md_6_isRead 85 kb_6_isRead_85 = true := by decide +kernel
def kb_6_isRead_90 : List zI := [(.istore 4, 2, 0, 0)]
theorem kd_6_isRead_90 : zdec md_6_isRead 90 kb_6_isRead_90 = true := by decide +kernel
def kb_6_isRead_67 : List zI := [(.aload_n 0, 1, 0, 0), (.bipush 32, 2, 0, 0)]
theorem kd_6_isRead_67 : zdec md_6_isRead 67 kb_6_isRead_67 = true := by decide +kernel
theorem kr_6_isRead_70 : decode md_6_isRead.2.1 70 = .ok (.invokevirtual 9, 3) := by decide +kernel
def kb_6_isRead_73 : List zI := [(.ifCond .le 16, 3, 89, 0)]
theorem kd_6_isRead_73 : zdec md_6_isRead 73 kb_6_isRead_73 = true := by decide +kernel
def kb_6_isRead_76 : List zI := [(.aload_n 1, 1, 0, 0), (.bipush 32, 2, 0, 0)]
theorem kd_6_isRead_76 : zdec md_6_isRead 76 kb_6_isRead_76 = true := by decide +kernel
theorem kr_6_isRead_79 : decode md_6_isRead.2.1 79 = .ok (.invokevirtual 9, 3) := by decide +kernel
def kb_6_isRead_82 : List zI := [(.ifCond .le 7, 3, 89, 0)]
theorem kd_6_isRead_82 : zdec md_6_isRead 82 kb_6_isRead_82 = true := by decide +kernel
def kb_6_isRead_156 : List zI := [(.iload 8, 2, 0, 0), (.iconst 2, 1, 0, 0), (.ishr, 1, 0, 0), (.iconst 3, 1, 0, 0)]
theorem kd_6_isRead_156 : zdec md_6_isRead 156 kb_6_isRead_156 = true := by decide +kernel
theorem kr_6_isRead_161 : decode md_6_isRead.2.1 161 = .ok (.invokestatic 19, 3) := by decide +kernel
def kb_6_isRead_164 : List zI := [(.ifCond .ne 8, 3, 172, 0)]
theorem kd_6_isRead_164 : zdec md_6_isRead 164 kb_6_isRead_164 = true := by decide +kernel
def kb_6_isRead_172 : List zI := [(.iload 8, 2, 0, 0), (.iconst 2, 1, 0, 0), (.ishr, 1, 0, 0), (.iconst 3, 1, 0, 0)]
theorem kd_6_isRead_172 : zdec md_6_isRead 172 kb_6_isRead_172 = true := by decide +kernel
theorem kr_6_isRead_177 : decode md_6_isRead.2.1 177 = .ok (.invokestatic 19, 3) := by decide +kernel
def kb_6_isRead_180 : List zI := [(.iconst 1, 1, 0, 0), (.if_icmp .ne 8, 3, 189, 0)]
theorem kd_6_isRead_180 : zdec md_6_isRead 180 kb_6_isRead_180 = true := by decide +kernel
def kb_6_isRead_189 : List zI := [(.bipush 97, 2, 0, 0), (.istore 9, 2, 0, 0)]
theorem kd_6_isRead_189 : zdec md_6_isRead 189 kb_6_isRead_189 = true := by decide +kernel
def kb_6_isRead_184 : List zI := [(.bipush 118, 2, 0, 0), (.goto 5, 3, 191, 0)]
theorem kd_6_isRead_184 : zdec md_6_isRead 184 kb_6_isRead_184 = true := by decide +kernel
def kb_6_isRead_191 : List zI := [(.istore 9, 2, 0, 0)]
theorem kd_6_isRead_191 : zdec md_6_isRead 191 kb_6_isRead_191 = true := by decide +kernel
def kb_6_isRead_167 : List zI := [(.bipush 110, 2, 0, 0), (.goto 22, 3, 191, 0)]
theorem kd_6_isRead_167 : zdec md_6_isRead 167 kb_6_isRead_167 = true := by decide +kernel
def kb_6_isRead_193 : List zI := [(.iload 8, 2, 0, 0), (.iconst 4, 1, 0, 0), (.ishr, 1, 0, 0), (.iconst 3, 1, 0, 0)]
theorem kd_6_isRead_193 : zdec md_6_isRead 193 kb_6_isRead_193 = true := by decide +kernel
theorem kr_6_isRead_198 : decode md_6_isRead.2.1 198 = .ok (.invokestatic 19, 3) := by decide +kernel
def kb_6_isRead_201 : List zI := [(.istore 10, 2, 0, 0), (.iload 4, 2, 0, 0), (.ifCond .eq 69, 3, 274, 0)]
theorem kd_6_isRead_201 : zdec md_6_isRead 201 kb_6_isRead_201 = true := by decide +kernel
def kb_6_isRead_208 : List zI := [(.aload_n 0, 1, 0, 0), (.bipush 35, 2, 0, 0)]
theorem kd_6_isRead_208 : zdec md_6_isRead 208 kb_6_isRead_208 = true := by decide +kernel
theorem kr_6_isRead_211 : decode md_6_isRead.2.1 211 = .ok (.invokevirtual 9, 3) := by decide +kernel
def kb_6_isRead_214 : List zI := [(.ifCond .le 60, 3, 274, 0)]
theorem kd_6_isRead_214 : zdec md_6_isRead 214 kb_6_isRead_214 = true := by decide +kernel
def kb_6_isRead_217 : List zI := [(.aload_n 1, 1, 0, 0), (.bipush 35, 2, 0, 0)]
theorem kd_6_isRead_217 : zdec md_6_isRead 217 kb_6_isRead_217 = true := by decide +kernel
theorem kr_6_isRead_220 : decode md_6_isRead.2.1 220 = .ok (.invokevirtual 9, 3) := by decide +kernel
def kb_6_isRead_223 : List zI := [(.ifCond .le 51, 3, 274, 0)]
theorem kd_6_isRead_223 : zdec md_6_isRead 223 kb_6_isRead_223 = true := by decide +kernel
def kb_6_isRead_226 : List zI := [(.aload_n 0, 1, 0, 0), (.iload 9, 2, 0, 0)]
theorem kd_6_isRead_226 : zdec md_6_isRead 226 kb_6_isRead_226 = true := by decide +kernel
theorem kr_6_isRead_229 : decode md_6_isRead.2.1 229 = .ok (.invokevirtual 9, 3) := by decide +kernel
def kb_6_isRead_232 : List zI := [(.ifCond .le 42, 3, 274, 0)]
theorem kd_6_isRead_232 : zdec md_6_isRead 232 kb_6_isRead_232 = true := by decide +kernel
def kb_6_isRead_235 : List zI := [(.aload_n 1, 1, 0, 0), (.iload 9, 2, 0, 0)]
theorem kd_6_isRead_235 : zdec md_6_isRead 235 kb_6_isRead_235 = true := by decide +kernel
theorem kr_6_isRead_238 : decode md_6_isRead.2.1 238 = .ok (.invokevirtual 9, 3) := by decide +kernel
def kb_6_isRead_241 : List zI := [(.ifCond .le 33, 3, 274, 0)]
theorem kd_6_isRead_241 : zdec md_6_isRead 241 kb_6_isRead_241 = true := by decide +kernel
def kb_6_isRead_244 : List zI := [(.aload_n 0, 1, 0, 0), (.bipush 48, 2, 0, 0), (.iload 10, 2, 0, 0), (.iadd, 1, 0, 0), (.i2c, 1, 0, 0)]
theorem kd_6_isRead_244 : zdec md_6_isRead 244 kb_6_isRead_244 = true := by decide +kernel
theorem kr_6_isRead_251 : decode md_6_isRead.2.1 251 = .ok (.invokevirtual 9, 3) := by decide +kernel
def kb_6_isRead_254 : List zI := [(.ifCond .le 20, 3, 274, 0)]
theorem kd_6_isRead_254 : zdec md_6_isRead 254 kb_6_isRead_254 = true := by decide +kernel
def kb_6_isRead_257 : List zI := [(.aload_n 1, 1, 0, 0), (.bipush 57, 2, 0, 0), (.iload 10, 2, 0, 0), (.isub, 1, 0, 0), (.i2c, 1, 0, 0)]
theorem kd_6_isRead_257 : zdec md_6_isRead 257 kb_6_isRead_257 = true := by decide +kernel
theorem kr_6_isRead_264 : decode md_6_isRead.2.1 264 = .ok (.invokevirtual 9, 3) := by decide +kernel
def kb_6_isRead_267 : List zI := [(.ifCond .le 7, 3, 274, 0)]
theorem kd_6_isRead_267 : zdec md_6_isRead 267 kb_6_isRead_267 = true := by decide +kernel
def kb_6_isRead_270 : List zI := [(.iconst 1, 1, 0, 0), (.goto 4, 3, 275, 0)]
theorem kd_6_isRead_270 : zdec md_6_isRead 270 kb_6_isRead_270 = true := by decide +kernel
def kb_6_isRead_275 : List zI := [(.istore 4, 2, 0, 0), (.iinc 6 1, 3, 0, 0)]
theorem kd_6_isRead_275 : zdec md_6_isRead 275 kb_6_isRead_275 = true := by decide +kernel
def kb_6_isRead_280 : List zI := [(.iinc 7 1, 3, 0, 0), (.goto (-246), 3, 37, 0)]
theorem kd_6_isRead_280 : zdec md_6_isRead 280 kb_6_isRead_280 = true := by decide +kernel
def kb_6_isRead_153 : List zI := [(.goto 127, 3, 280, 0)]
theorem kd_6_isRead_153 : zdec md_6_isRead 153 kb_6_isRead_153 = true := by decide +kernel
def kb_6_isRead_92 : List zI := [(.iload 8, 2, 0, 0), (.iconst 4, 1, 0, 0)]
theorem kd_6_isRead_92 : zdec md_6_isRead 92 kb_6_isRead_92 = true := by decide +kernel
theorem kr_6_isRead_95 : decode md_6_isRead.2.1 95 = .ok (.invokestatic 19, 3) := by decide +kernel
def kb_6_isRead_98 : List zI := [(.ifCond .ne 58, 3, 156, 0)]
theorem kd_6_isRead_98 : zdec md_6_isRead 98 kb_6_isRead_98 = true := by decide +kernel
def kb_6_isRead_101 : List zI := [(.iconst 0, 1, 0, 0), (.istore 9, 2, 0, 0)]
theorem kd_6_isRead_101 : zdec md_6_isRead 101 kb_6_isRead_101 = true := by decide +kernel
def kb_6_isRead_286 : List zI := [(.iload 4, 2, 0, 0), (.ifCond .eq 73, 3, 361, 0)]
theorem kd_6_isRead_286 : zdec md_6_isRead 286 kb_6_isRead_286 = true := by decide +kernel
def kb_6_isRead_291 : List zI := [(.aload_n 0, 1, 0, 0), (.iconst 1, 1, 0, 0)]
theorem kd_6_isRead_291 : zdec md_6_isRead 291 kb_6_isRead_291 = true := by decide +kernel
theorem kr_6_isRead_293 : decode md_6_isRead.2.1 293 = .ok (.invokevirtual 39, 3) := by decide +kernel
def kb_6_isRead_296 : List zI := [(.bipush (-5), 2, 0, 0)]
theorem kd_6_isRead_296 : zdec md_6_isRead 296 kb_6_isRead_296 = true := by decide +kernel
theorem kr_6_isRead_298 : decode md_6_isRead.2.1 298 = .ok (.if_icmp .ne 63, 3) := by decide +kernel
def kb_6_isRead_301 : List zI := [(.aload_n 0, 1, 0, 0)]
theorem kd_6_isRead_301 : zdec md_6_isRead 301 kb_6_isRead_301 = true := by decide +kernel
theorem kr_6_isRead_302 : decode md_6_isRead.2.1 302 = .ok (.invokevirtual 43, 3) := by decide +kernel
def kb_6_isRead_305 : List zI := [(.iload 6, 2, 0, 0)]
theorem kd_6_isRead_305 : zdec md_6_isRead 305 kb_6_isRead_305 = true := by decide +kernel
theorem kr_6_isRead_307 : decode md_6_isRead.2.1 307 = .ok (.if_icmp .ne 54, 3) := by decide +kernel
def kb_6_isRead_310 : List zI := [(.aload_n 1, 1, 0, 0)]
theorem kd_6_isRead_310 : zdec md_6_isRead 310 kb_6_isRead_310 = true := by decide +kernel
theorem kr_6_isRead_311 : decode md_6_isRead.2.1 311 = .ok (.invokevirtual 43, 3) := by decide +kernel
def kb_6_isRead_314 : List zI := [(.iload 6, 2, 0, 0)]
theorem kd_6_isRead_314 : zdec md_6_isRead 314 kb_6_isRead_314 = true := by decide +kernel
theorem kr_6_isRead_316 : decode md_6_isRead.2.1 316 = .ok (.if_icmp .ne 45, 3) := by decide +kernel
def kb_6_isRead_319 : List zI := [(.aload_n 0, 1, 0, 0), (.iconst 1, 1, 0, 0)]
theorem kd_6_isRead_319 : zdec md_6_isRead 319 kb_6_isRead_319 = true := by decide +kernel
theorem kr_6_isRead_321 : decode md_6_isRead.2.1 321 = .ok (.invokevirtual 29, 3) := by decide +kernel
def kb_6_isRead_324 : List zI := [(.iload 5, 2, 0, 0)]
theorem kd_6_isRead_324 : zdec md_6_isRead 324 kb_6_isRead_324 = true := by decide +kernel
theorem kr_6_isRead_326 : decode md_6_isRead.2.1 326 = .ok (.if_icmp .ne 35, 3) := by decide +kernel
def kb_6_isRead_329 : List zI := [(.aload_n 0, 1, 0, 0), (.iconst 2, 1, 0, 0)]
theorem kd_6_isRead_329 : zdec md_6_isRead 329 kb_6_isRead_329 = true := by decide +kernel
theorem kr_6_isRead_331 : decode md_6_isRead.2.1 331 = .ok (.invokevirtual 29, 3) := by decide +kernel
def kb_6_isRead_334 : List zI := [(.iload 6, 2, 0, 0)]
theorem kd_6_isRead_334 : zdec md_6_isRead 334 kb_6_isRead_334 = true := by decide +kernel
theorem kr_6_isRead_336 : decode md_6_isRead.2.1 336 = .ok (.if_icmp .ne 25, 3) := by decide +kernel
def kb_6_isRead_339 : List zI := [(.aload_n 0, 1, 0, 0), (.iconst 3, 1, 0, 0)]
theorem kd_6_isRead_339 : zdec md_6_isRead 339 kb_6_isRead_339 = true := by decide +kernel
theorem kr_6_isRead_341 : decode md_6_isRead.2.1 341 = .ok (.invokevirtual 29, 3) := by decide +kernel
def kb_6_isRead_344 : List zI := [(.iload 6, 2, 0, 0)]
theorem kd_6_isRead_344 : zdec md_6_isRead 344 kb_6_isRead_344 = true := by decide +kernel
theorem kr_6_isRead_346 : decode md_6_isRead.2.1 346 = .ok (.if_icmp .ne 15, 3) := by decide +kernel
def kb_6_isRead_349 : List zI := [(.aload_n 0, 1, 0, 0), (.iconst 5, 1, 0, 0)]
theorem kd_6_isRead_349 : zdec md_6_isRead 349 kb_6_isRead_349 = true := by decide +kernel
theorem kr_6_isRead_351 : decode md_6_isRead.2.1 351 = .ok (.invokevirtual 29, 3) := by decide +kernel
def kb_6_isRead_354 : List zI := [(.ifCond .ne 7, 3, 361, 0)]
theorem kd_6_isRead_354 : zdec md_6_isRead 354 kb_6_isRead_354 = true := by decide +kernel
def kb_6_isRead_357 : List zI := [(.iconst 1, 1, 0, 0), (.goto 4, 3, 362, 0)]
theorem kd_6_isRead_357 : zdec md_6_isRead 357 kb_6_isRead_357 = true := by decide +kernel
theorem kr_6_isRead_362 : decode md_6_isRead.2.1 362 = .ok (.ireturn, 1) := by decide +kernel
def kb_6_isRead_0 : List zI := [(.aload_n 0, 1, 0, 0)]
theorem kd_6_isRead_0 : zdec md_6_isRead 0 kb_6_isRead_0 = true := by decide +kernel
theorem kr_6_isRead_1 : decode md_6_isRead.2.1 1 = .ok (.invokevirtual 15, 3) := by decide +kernel
def kb_6_isRead_4 : List zI := [(.ifCond .lt 14, 3, 18, 0)]
theorem kd_6_isRead_4 : zdec md_6_isRead 4 kb_6_isRead_4 = true := by decide +kernel
def kb_6_isRead_7 : List zI := [(.aload_n 1, 1, 0, 0)]
theorem kd_6_isRead_7 : zdec md_6_isRead 7 kb_6_isRead_7 = true := by decide +kernel
theorem kr_6_isRead_8 : decode md_6_isRead.2.1 8 = .ok (.invokevirtual 15, 3) := by decide +kernel
def kb_6_isRead_11 : List zI := [(.ifCond .lt 7, 3, 18, 0)]
theorem kd_6_isRead_11 : zdec md_6_isRead 11 kb_6_isRead_11 = true := by decide +kernel
def kb_6_isRead_14 : List zI := [(.iconst 1, 1, 0, 0), (.goto 4, 3, 19, 0)]
theorem kd_6_isRead_14 : zdec md_6_isRead 14 kb_6_isRead_14 = true := by decide +kernel
def kb_6_isRead_19 : List zI := [(.istore 4, 2, 0, 0), (.iconst 1, 1, 0, 0), (.iload_n 2, 1, 0, 0), (.bipush 9, 2, 0, 0)]
theorem kd_6_isRead_19 : zdec md_6_isRead 19 kb_6_isRead_19 = true := by decide +kernel
theorem kr_6_isRead_25 : decode md_6_isRead.2.1 25 = .ok (.invokestatic 19, 3) := by decide +kernel
def kb_6_isRead_28 : List zI := [(.iadd, 1, 0, 0), (.istore 5, 2, 0, 0), (.iconst 0, 1, 0, 0), (.istore 6, 2, 0, 0), (.iconst 0, 1, 0, 0), (.istore 7, 2, 0, 0)]
theorem kd_6_isRead_28 : zdec md_6_isRead 28 kb_6_isRead_28 = true := by decide +kernel
section LAWS
variable {μ ν : zM}
/-- the letters of a plain word -/
theorem ir_let {x y n h k z U s : Int} (hU : U = lup (zshr z 2) 4) (hs : 0 ≤ s ∧ s ≤ 50) : ∀ (d : Nat) (j : Int) (μ ν : zM), R2 μ ν → μ 1 1 = s + j → ν 1 1 = s + j → (∀ p, 0 ≤ p → p < j → 97 ≤ μ 2 (s + p) ∧ μ 2 (s + p) ≤ 122 ∧ ν 2 (s + p) = nsg (μ 2 (s + p))) → 0 ≤ j → j + d = U + 1 →
    ∃ μ' ν' : zM, R2 μ' ν' ∧ μ' 1 1 = s + (U + 1) ∧ ν' 1 1 = s + (U + 1) ∧ (∀ p, 0 ≤ p → p < U + 1 → 97 ≤ μ' 2 (s + p) ∧ μ' 2 (s + p) ≤ 122 ∧ ν' 2 (s + p) = nsg (μ' 2 (s + p))) ∧ (∀ p, p < s → μ' 2 p = μ 2 p ∧ ν' 2 p = ν 2 p) ∧ ∀ {v : Option zV} {M : zM}, Ez md_6_isRead 0 0 153 [(0, zr 0), (1, zr 113), (2, zi x), (3, zi y), (4, zi 1), (5, zi n), (6, zi h), (7, zi k), (8, zi z)] [] zSp (cmb μ' ν') v zSp M → Ez md_6_isRead 0 0 104 [(0, zr 0), (1, zr 113), (2, zi x), (3, zi y), (4, zi 1), (5, zi n), (6, zi h), (7, zi k), (8, zi z), (9, zi j)] [] zSp (cmb μ ν) v zSp M := by
  have ur := lup_r (zshr z 2) (n := 4) (by decide)
  rw [← hU] at ur
  intro d
  induction d with
  | zero =>
    intro j μ ν R hm hn T j0 hj
    refine ⟨μ, ν, R, by rw [hm]; omega, by rw [hn]; omega, by rw [show U + 1 = j by omega]; exact T, fun p hp => ⟨rfl, rfl⟩, fun {v M} kk => ?_⟩
    refine Az.blk kd_6_isRead_104 (show Ez md_6_isRead 0 0 111 [(0, zr 0), (1, zr 113), (2, zi x), (3, zi y), (4, zi 1), (5, zi n), (6, zi h), (7, zi k), (8, zi z), (9, zi j)] [zi 4, zi (zshr z 2), zi j] zSp (cmb μ ν) _ _ _ from ?_)
    refine Az.cS (mc := md_6_up) (n := 2) (As := [zi (zshr z 2), zi 4]) (rest := [zi j]) (Sh1 := zSp) (μ1 := cmb μ ν) (w := some (zi (lup (zshr z 2) 4))) kr_6_isRead_111 zw_180 ok_6_up rfl rfl (lz_up (zshr z 2) 4 (by omega)) rfl rfl (show Ez md_6_isRead 0 0 114 [(0, zr 0), (1, zr 113), (2, zi x), (3, zi y), (4, zi 1), (5, zi n), (6, zi h), (7, zi k), (8, zi z), (9, zi j)] [zi (lup (zshr z 2) 4), zi j] zSp (cmb μ ν) _ _ _ from ?_)
    rw [show (lup (zshr z 2) 4) = U from hU.symm]
    refine Az.blk kd_6_isRead_114 (show zR j ∧ zR U ∧ ((U < j → Ez md_6_isRead 0 0 153 [(0, zr 0), (1, zr 113), (2, zi x), (3, zi y), (4, zi 1), (5, zi n), (6, zi h), (7, zi k), (8, zi z), (9, zi j)] [] zSp (cmb μ ν) _ _ _) ∧ (¬ U < j → Ez md_6_isRead 0 0 117 [(0, zr 0), (1, zr 113), (2, zi x), (3, zi y), (4, zi 1), (5, zi n), (6, zi h), (7, zi k), (8, zi z), (9, zi j)] [] zSp (cmb μ ν) _ _ _)) from ⟨(by omega), (by omega), fun _ => ?_, fun h => absurd (show U < j by omega) h⟩)
    refine Az.lvs (lv' := [(0, zr 0), (1, zr 113), (2, zi x), (3, zi y), (4, zi 1), (5, zi n), (6, zi h), (7, zi k), (8, zi z)]) ?_ ?_
    · intro q hq; simp only [List.mem_cons, List.not_mem_nil, or_false] at hq; rcases hq with rfl | rfl | rfl | rfl | rfl | rfl | rfl | rfl | rfl <;> rfl
    exact kk
  | succ d ih =>
    intro j μ ν R hm hn T j0 hj
    obtain ⟨l, hl⟩ : ∃ l, l = lup (zshr z j) 26 := ⟨_, rfl⟩
    have lr := lup_r (zshr z j) (n := 26) (by decide)
    have lr2 : 0 ≤ l ∧ l ≤ 25 := by rw [hl]; omega
    have sr : 97 ≤ nsg (97 + l) ∧ nsg (97 + l) ≤ 122 := by have := nsg_r (x := 97 + l) (by omega) (by omega); omega
    have R1 := b_type R hm hn (a := 97 + l) (b := nsg (97 + l)) (by omega) (by omega) (by omega)
    have e1 := ty_eq (a := 97 + l) hm (by omega)
    have e2 := ty_eq (a := nsg (97 + l)) hn (by omega)
    obtain ⟨μ', ν', R', l1', l2', T', same', kk'⟩ := ih (j + 1) _ _ R1 (by rw [e1]; dsimp only; rw [zup_self]; omega) (by rw [e2]; dsimp only; rw [zup_self]; omega) (fun p p0 p1 => by
      rw [e1, e2]
      dsimp only
      rw [zup_ne (show (2 : Nat) ≠ 1 by decide), zup_ne (show (2 : Nat) ≠ 1 by decide), zup_at, zup_at]
      by_cases q : p = j
      · rw [if_pos (by omega), if_pos (by omega)]; exact ⟨by omega, by omega, rfl⟩
      · rw [if_neg (by omega), if_neg (by omega)]; exact T p p0 (by omega)) (by omega) (by omega)
    refine ⟨μ', ν', R', l1', l2', T', fun p hp => ?_, fun {v M} kk => ?_⟩
    · obtain ⟨s1, s2⟩ := same' p hp
      rw [s1, s2, e1, e2]
      dsimp only
      rw [zup_ne (show (2 : Nat) ≠ 1 by decide), zup_ne (show (2 : Nat) ≠ 1 by decide), zup_slot (by omega), zup_slot (by omega)]
      exact ⟨rfl, rfl⟩
    · skip
      refine Az.blk kd_6_isRead_104 (show Ez md_6_isRead 0 0 111 [(0, zr 0), (1, zr 113), (2, zi x), (3, zi y), (4, zi 1), (5, zi n), (6, zi h), (7, zi k), (8, zi z), (9, zi j)] [zi 4, zi (zshr z 2), zi j] zSp (cmb μ ν) _ _ _ from ?_)
      refine Az.cS (mc := md_6_up) (n := 2) (As := [zi (zshr z 2), zi 4]) (rest := [zi j]) (Sh1 := zSp) (μ1 := cmb μ ν) (w := some (zi (lup (zshr z 2) 4))) kr_6_isRead_111 zw_180 ok_6_up rfl rfl (lz_up (zshr z 2) 4 (by omega)) rfl rfl (show Ez md_6_isRead 0 0 114 [(0, zr 0), (1, zr 113), (2, zi x), (3, zi y), (4, zi 1), (5, zi n), (6, zi h), (7, zi k), (8, zi z), (9, zi j)] [zi (lup (zshr z 2) 4), zi j] zSp (cmb μ ν) _ _ _ from ?_)
      rw [show (lup (zshr z 2) 4) = U from hU.symm]
      refine Az.blk kd_6_isRead_114 (show zR j ∧ zR U ∧ ((U < j → Ez md_6_isRead 0 0 153 [(0, zr 0), (1, zr 113), (2, zi x), (3, zi y), (4, zi 1), (5, zi n), (6, zi h), (7, zi k), (8, zi z), (9, zi j)] [] zSp (cmb μ ν) _ _ _) ∧ (¬ U < j → Ez md_6_isRead 0 0 117 [(0, zr 0), (1, zr 113), (2, zi x), (3, zi y), (4, zi 1), (5, zi n), (6, zi h), (7, zi k), (8, zi z), (9, zi j)] [] zSp (cmb μ ν) _ _ _)) from ⟨(by omega), (by omega), fun h => absurd h (show ¬ U < j by omega), fun _ => ?_⟩)
      refine Az.blk kd_6_isRead_117 (show zR 1 ∧ (((1 : Int) = 0 → Ez md_6_isRead 0 0 144 [(0, zr 0), (1, zr 113), (2, zi x), (3, zi y), (4, zi 1), (5, zi n), (6, zi h), (7, zi k), (8, zi z), (9, zi j)] [] zSp (cmb μ ν) _ _ _) ∧ (¬ (1 : Int) = 0 → Ez md_6_isRead 0 0 122 [(0, zr 0), (1, zr 113), (2, zi x), (3, zi y), (4, zi 1), (5, zi n), (6, zi h), (7, zi k), (8, zi z), (9, zi j)] [] zSp (cmb μ ν) _ _ _)) from ⟨(by omega), fun h => absurd h (by decide), fun _ => ?_⟩)
      refine Az.blk kd_6_isRead_122 (show Ez md_6_isRead 0 0 131 [(0, zr 0), (1, zr 113), (2, zi x), (3, zi y), (4, zi 1), (5, zi n), (6, zi h), (7, zi k), (8, zi z), (9, zi j)] [zi 26, zi (zshr z j), zr 113, zr 0] zSp (cmb μ ν) _ _ _ from ?_)
      refine Az.cS (mc := md_6_up) (n := 2) (As := [zi (zshr z j), zi 26]) (rest := [zr 113, zr 0]) (Sh1 := zSp) (μ1 := cmb μ ν) (w := some (zi (lup (zshr z j) 26))) kr_6_isRead_131 zw_180 ok_6_up rfl rfl (lz_up (zshr z j) 26 (by omega)) rfl rfl (show Ez md_6_isRead 0 0 134 [(0, zr 0), (1, zr 113), (2, zi x), (3, zi y), (4, zi 1), (5, zi n), (6, zi h), (7, zi k), (8, zi z), (9, zi j)] [zi (lup (zshr z j) 26), zr 113, zr 0] zSp (cmb μ ν) _ _ _ from ?_)
      rw [show (lup (zshr z j) 26) = l from hl.symm]
      refine Az.cS (mc := md_6_both) (n := 3) (As := [zr 0, zr 113, zi l]) (rest := []) (Sh1 := zSp) (μ1 := cmb (xx_type μ (97 + l)).2 (xx_type ν (nsg (97 + l))).2) (w := some (zi 1)) kr_6_isRead_134 zw_192 ok_6_both rfl rfl (lz_both R hm hn (by omega) (by omega) (by omega)) rfl rfl (show Ez md_6_isRead 0 0 137 [(0, zr 0), (1, zr 113), (2, zi x), (3, zi y), (4, zi 1), (5, zi n), (6, zi h), (7, zi k), (8, zi z), (9, zi j)] [zi 1] zSp (cmb (xx_type μ (97 + l)).2 (xx_type ν (nsg (97 + l))).2) _ _ _ from ?_)
      refine Az.blk kd_6_isRead_137 (show zR 1 ∧ (((1 : Int) = 0 → Ez md_6_isRead 0 0 144 [(0, zr 0), (1, zr 113), (2, zi x), (3, zi y), (4, zi 1), (5, zi n), (6, zi h), (7, zi k), (8, zi z), (9, zi j)] [] zSp (cmb (xx_type μ (97 + l)).2 (xx_type ν (nsg (97 + l))).2) _ _ _) ∧ (¬ (1 : Int) = 0 → Ez md_6_isRead 0 0 140 [(0, zr 0), (1, zr 113), (2, zi x), (3, zi y), (4, zi 1), (5, zi n), (6, zi h), (7, zi k), (8, zi z), (9, zi j)] [] zSp (cmb (xx_type μ (97 + l)).2 (xx_type ν (nsg (97 + l))).2) _ _ _)) from ⟨(by omega), fun h => absurd h (by decide), fun _ => ?_⟩)
      refine Az.blk kd_6_isRead_140 (show Ez md_6_isRead 0 0 145 [(0, zr 0), (1, zr 113), (2, zi x), (3, zi y), (4, zi 1), (5, zi n), (6, zi h), (7, zi k), (8, zi z), (9, zi j)] [zi 1] zSp (cmb (xx_type μ (97 + l)).2 (xx_type ν (nsg (97 + l))).2) _ _ _ from ?_)
      refine Az.blk kd_6_isRead_145 (show Ez md_6_isRead 0 0 104 [(9, zi (j + 1)), (4, zi 1), (0, zr 0), (1, zr 113), (2, zi x), (3, zi y), (5, zi n), (6, zi h), (7, zi k), (8, zi z)] [] zSp (cmb (xx_type μ (97 + l)).2 (xx_type ν (nsg (97 + l))).2) _ _ _ from ?_)
      refine Az.lvs (lv' := [(0, zr 0), (1, zr 113), (2, zi x), (3, zi y), (4, zi 1), (5, zi n), (6, zi h), (7, zi k), (8, zi z), (9, zi (j + 1))]) ?_ ?_
      · intro q hq; simp only [List.mem_cons, List.not_mem_nil, or_false] at hq; rcases hq with rfl | rfl | rfl | rfl | rfl | rfl | rfl | rfl | rfl | rfl <;> rfl
      exact kk' kk
/-- the blank ahead of an item but the first -/
theorem ir_blank {x y n h k s : Int} (R : R2 μ ν) (hm : μ 1 1 = s) (hn : ν 1 1 = s) (hs : 0 ≤ s ∧ s ≤ 49) (hk : 0 ≤ k ∧ k < n) (hn9 : n ≤ 9) : ∃ μ' ν' : zM, R2 μ' ν' ∧ μ' 1 1 = (if k = 0 then s else s + 1) ∧ ν' 1 1 = (if k = 0 then s else s + 1) ∧ (0 < k → μ' 2 s = 32 ∧ ν' 2 s = 32) ∧ (∀ p, p < s → μ' 2 p = μ 2 p ∧ ν' 2 p = ν 2 p) ∧ ∀ {v : Option zV} {M : zM}, Ez md_6_isRead 0 0 92 [(0, zr 0), (1, zr 113), (2, zi x), (3, zi y), (4, zi 1), (5, zi n), (6, zi h), (7, zi k), (8, zi (zxor (zshr x k) (zshr y (2 * k))))] [] zSp (cmb μ' ν') v zSp M → Ez md_6_isRead 0 0 37 [(0, zr 0), (1, zr 113), (2, zi x), (3, zi y), (4, zi 1), (5, zi n), (6, zi h), (7, zi k)] [] zSp (cmb μ ν) v zSp M := by
  by_cases q : k = 0
  · refine ⟨μ, ν, R, by rw [if_pos q]; exact hm, by rw [if_pos q]; exact hn, fun w => by omega, fun p hp => ⟨rfl, rfl⟩, fun {v M} kk => ?_⟩
    refine Az.blk kd_6_isRead_37 (show zR k ∧ zR n ∧ ((¬ k < n → Ez md_6_isRead 0 0 286 [(0, zr 0), (1, zr 113), (2, zi x), (3, zi y), (4, zi 1), (5, zi n), (6, zi h), (7, zi k)] [] zSp (cmb μ ν) _ _ _) ∧ (k < n → Ez md_6_isRead 0 0 44 [(0, zr 0), (1, zr 113), (2, zi x), (3, zi y), (4, zi 1), (5, zi n), (6, zi h), (7, zi k)] [] zSp (cmb μ ν) _ _ _)) from ⟨(by omega), (by omega), fun h => absurd (show k < n by omega) h, fun _ => ?_⟩)
    refine Az.blk kd_6_isRead_44 (show zR 1 ∧ (((1 : Int) = 0 → Ez md_6_isRead 0 0 89 [(8, zi (zxor (zshr x k) (zshr y (2 * k)))), (0, zr 0), (1, zr 113), (2, zi x), (3, zi y), (4, zi 1), (5, zi n), (6, zi h), (7, zi k)] [] zSp (cmb μ ν) _ _ _) ∧ (¬ (1 : Int) = 0 → Ez md_6_isRead 0 0 62 [(8, zi (zxor (zshr x k) (zshr y (2 * k)))), (0, zr 0), (1, zr 113), (2, zi x), (3, zi y), (4, zi 1), (5, zi n), (6, zi h), (7, zi k)] [] zSp (cmb μ ν) _ _ _)) from ⟨(by omega), fun h => absurd h (by decide), fun _ => ?_⟩)
    refine Az.blk kd_6_isRead_62 (show zR k ∧ ((k = 0 → Ez md_6_isRead 0 0 85 [(8, zi (zxor (zshr x k) (zshr y (2 * k)))), (0, zr 0), (1, zr 113), (2, zi x), (3, zi y), (4, zi 1), (5, zi n), (6, zi h), (7, zi k)] [] zSp (cmb μ ν) _ _ _) ∧ (¬ k = 0 → Ez md_6_isRead 0 0 67 [(8, zi (zxor (zshr x k) (zshr y (2 * k)))), (0, zr 0), (1, zr 113), (2, zi x), (3, zi y), (4, zi 1), (5, zi n), (6, zi h), (7, zi k)] [] zSp (cmb μ ν) _ _ _)) from ⟨(by omega), fun _ => ?_, fun h => absurd q h⟩)
    refine Az.blk kd_6_isRead_85 (show Ez md_6_isRead 0 0 90 [(8, zi (zxor (zshr x k) (zshr y (2 * k)))), (0, zr 0), (1, zr 113), (2, zi x), (3, zi y), (4, zi 1), (5, zi n), (6, zi h), (7, zi k)] [zi 1] zSp (cmb μ ν) _ _ _ from ?_)
    refine Az.blk kd_6_isRead_90 (show Ez md_6_isRead 0 0 92 [(4, zi 1), (8, zi (zxor (zshr x k) (zshr y (2 * k)))), (0, zr 0), (1, zr 113), (2, zi x), (3, zi y), (5, zi n), (6, zi h), (7, zi k)] [] zSp (cmb μ ν) _ _ _ from ?_)
    refine Az.lvs (lv' := [(0, zr 0), (1, zr 113), (2, zi x), (3, zi y), (4, zi 1), (5, zi n), (6, zi h), (7, zi k), (8, zi (zxor (zshr x k) (zshr y (2 * k))))]) ?_ ?_
    · intro q hq; simp only [List.mem_cons, List.not_mem_nil, or_false] at hq; rcases hq with rfl | rfl | rfl | rfl | rfl | rfl | rfl | rfl | rfl <;> rfl
    exact kk
  · have e1 := ty_eq (a := 32) hm (by omega)
    have e2 := ty_eq (a := 32) hn (by omega)
    refine ⟨(xx_type μ 32).2, (xx_type ν 32).2, b_type R hm hn (by omega) (by omega) (by omega), by rw [if_neg q, e1]; dsimp only; exact zup_self, by rw [if_neg q, e2]; dsimp only; exact zup_self, fun w => ?_, fun p hp => ?_, fun {v M} kk => ?_⟩
    · rw [e1, e2]
      dsimp only
      rw [zup_ne (show (2 : Nat) ≠ 1 by decide), zup_ne (show (2 : Nat) ≠ 1 by decide), zup_self, zup_self]
      exact ⟨rfl, rfl⟩
    · rw [e1, e2]
      dsimp only
      rw [zup_ne (show (2 : Nat) ≠ 1 by decide), zup_ne (show (2 : Nat) ≠ 1 by decide), zup_slot (by omega), zup_slot (by omega)]
      exact ⟨rfl, rfl⟩
    · skip
      refine Az.blk kd_6_isRead_37 (show zR k ∧ zR n ∧ ((¬ k < n → Ez md_6_isRead 0 0 286 [(0, zr 0), (1, zr 113), (2, zi x), (3, zi y), (4, zi 1), (5, zi n), (6, zi h), (7, zi k)] [] zSp (cmb μ ν) _ _ _) ∧ (k < n → Ez md_6_isRead 0 0 44 [(0, zr 0), (1, zr 113), (2, zi x), (3, zi y), (4, zi 1), (5, zi n), (6, zi h), (7, zi k)] [] zSp (cmb μ ν) _ _ _)) from ⟨(by omega), (by omega), fun h => absurd (show k < n by omega) h, fun _ => ?_⟩)
      refine Az.blk kd_6_isRead_44 (show zR 1 ∧ (((1 : Int) = 0 → Ez md_6_isRead 0 0 89 [(8, zi (zxor (zshr x k) (zshr y (2 * k)))), (0, zr 0), (1, zr 113), (2, zi x), (3, zi y), (4, zi 1), (5, zi n), (6, zi h), (7, zi k)] [] zSp (cmb μ ν) _ _ _) ∧ (¬ (1 : Int) = 0 → Ez md_6_isRead 0 0 62 [(8, zi (zxor (zshr x k) (zshr y (2 * k)))), (0, zr 0), (1, zr 113), (2, zi x), (3, zi y), (4, zi 1), (5, zi n), (6, zi h), (7, zi k)] [] zSp (cmb μ ν) _ _ _)) from ⟨(by omega), fun h => absurd h (by decide), fun _ => ?_⟩)
      refine Az.blk kd_6_isRead_62 (show zR k ∧ ((k = 0 → Ez md_6_isRead 0 0 85 [(8, zi (zxor (zshr x k) (zshr y (2 * k)))), (0, zr 0), (1, zr 113), (2, zi x), (3, zi y), (4, zi 1), (5, zi n), (6, zi h), (7, zi k)] [] zSp (cmb μ ν) _ _ _) ∧ (¬ k = 0 → Ez md_6_isRead 0 0 67 [(8, zi (zxor (zshr x k) (zshr y (2 * k)))), (0, zr 0), (1, zr 113), (2, zi x), (3, zi y), (4, zi 1), (5, zi n), (6, zi h), (7, zi k)] [] zSp (cmb μ ν) _ _ _)) from ⟨(by omega), fun h => absurd h q, fun _ => ?_⟩)
      refine Az.blk kd_6_isRead_67 (show Ez md_6_isRead 0 0 70 [(8, zi (zxor (zshr x k) (zshr y (2 * k)))), (0, zr 0), (1, zr 113), (2, zi x), (3, zi y), (4, zi 1), (5, zi n), (6, zi h), (7, zi k)] [zi 32, zr 0] zSp (cmb μ ν) _ _ _ from ?_)
      refine Az.oV (mc := md_5_type) (n := 1) (As := [zi 32]) (rest := []) (z := (xx_type μ 32).1) kr_6_isRead_70 zw_184 ok_5_type rfl rfl rfl trivial rfl (xz_type R.B 32 R.P (by omega)) rfl rfl (show Ez md_6_isRead 0 0 73 [(8, zi (zxor (zshr x k) (zshr y (2 * k)))), (0, zr 0), (1, zr 113), (2, zi x), (3, zi y), (4, zi 1), (5, zi n), (6, zi h), (7, zi k)] [zi (xx_type μ 32).1] zSp (cmb (xx_type μ 32).2 ν) _ _ _ from ?_)
      have t1 : (xx_type μ 32).1 = s + 1 := by rw [ty_eq hm (by omega)]
      refine Az.blk kd_6_isRead_73 (show zR (xx_type μ 32).1 ∧ ((¬ 0 < (xx_type μ 32).1 → Ez md_6_isRead 0 0 89 [(8, zi (zxor (zshr x k) (zshr y (2 * k)))), (0, zr 0), (1, zr 113), (2, zi x), (3, zi y), (4, zi 1), (5, zi n), (6, zi h), (7, zi k)] [] zSp (cmb (xx_type μ 32).2 ν) _ _ _) ∧ (0 < (xx_type μ 32).1 → Ez md_6_isRead 0 0 76 [(8, zi (zxor (zshr x k) (zshr y (2 * k)))), (0, zr 0), (1, zr 113), (2, zi x), (3, zi y), (4, zi 1), (5, zi n), (6, zi h), (7, zi k)] [] zSp (cmb (xx_type μ 32).2 ν) _ _ _)) from ⟨(by omega), fun h => absurd (show 0 < (xx_type μ 32).1 by omega) h, fun _ => ?_⟩)
      refine Az.blk kd_6_isRead_76 (show Ez md_6_isRead 0 0 79 [(8, zi (zxor (zshr x k) (zshr y (2 * k)))), (0, zr 0), (1, zr 113), (2, zi x), (3, zi y), (4, zi 1), (5, zi n), (6, zi h), (7, zi k)] [zi 32, zr 113] zSp (cmb (xx_type μ 32).2 ν) _ _ _ from ?_)
      refine Az.pV (mc := md_5_type) (n := 1) (As := [zi 32]) (rest := []) (z := (xx_type ν 32).1) kr_6_isRead_79 zw_184 ok_5_type rfl rfl rfl trivial rfl (xz_type R.B' 32 R.P' (by omega)) rfl rfl (show Ez md_6_isRead 0 0 82 [(8, zi (zxor (zshr x k) (zshr y (2 * k)))), (0, zr 0), (1, zr 113), (2, zi x), (3, zi y), (4, zi 1), (5, zi n), (6, zi h), (7, zi k)] [zi (xx_type ν 32).1] zSp (cmb (xx_type μ 32).2 (xx_type ν 32).2) _ _ _ from ?_)
      have t2 : (xx_type ν 32).1 = s + 1 := by rw [ty_eq hn (by omega)]
      refine Az.blk kd_6_isRead_82 (show zR (xx_type ν 32).1 ∧ ((¬ 0 < (xx_type ν 32).1 → Ez md_6_isRead 0 0 89 [(8, zi (zxor (zshr x k) (zshr y (2 * k)))), (0, zr 0), (1, zr 113), (2, zi x), (3, zi y), (4, zi 1), (5, zi n), (6, zi h), (7, zi k)] [] zSp (cmb (xx_type μ 32).2 (xx_type ν 32).2) _ _ _) ∧ (0 < (xx_type ν 32).1 → Ez md_6_isRead 0 0 85 [(8, zi (zxor (zshr x k) (zshr y (2 * k)))), (0, zr 0), (1, zr 113), (2, zi x), (3, zi y), (4, zi 1), (5, zi n), (6, zi h), (7, zi k)] [] zSp (cmb (xx_type μ 32).2 (xx_type ν 32).2) _ _ _)) from ⟨(by omega), fun h => absurd (show 0 < (xx_type ν 32).1 by omega) h, fun _ => ?_⟩)
      refine Az.blk kd_6_isRead_85 (show Ez md_6_isRead 0 0 90 [(8, zi (zxor (zshr x k) (zshr y (2 * k)))), (0, zr 0), (1, zr 113), (2, zi x), (3, zi y), (4, zi 1), (5, zi n), (6, zi h), (7, zi k)] [zi 1] zSp (cmb (xx_type μ 32).2 (xx_type ν 32).2) _ _ _ from ?_)
      refine Az.blk kd_6_isRead_90 (show Ez md_6_isRead 0 0 92 [(4, zi 1), (8, zi (zxor (zshr x k) (zshr y (2 * k)))), (0, zr 0), (1, zr 113), (2, zi x), (3, zi y), (5, zi n), (6, zi h), (7, zi k)] [] zSp (cmb (xx_type μ 32).2 (xx_type ν 32).2) _ _ _ from ?_)
      refine Az.lvs (lv' := [(0, zr 0), (1, zr 113), (2, zi x), (3, zi y), (4, zi 1), (5, zi n), (6, zi h), (7, zi k), (8, zi (zxor (zshr x k) (zshr y (2 * k))))]) ?_ ?_
      · intro q hq; simp only [List.mem_cons, List.not_mem_nil, or_false] at hq; rcases hq with rfl | rfl | rfl | rfl | rfl | rfl | rfl | rfl | rfl <;> rfl
      exact kk
theorem ir_kind {x y n h k z : Int} {v : Option zV} {M : zM} (kk : Ez md_6_isRead 0 0 193 [(0, zr 0), (1, zr 113), (2, zi x), (3, zi y), (4, zi 1), (5, zi n), (6, zi h), (7, zi k), (8, zi z), (9, zi (kch (lup (zshr z 2) 3)))] [] zSp (cmb μ ν) v zSp M) : Ez md_6_isRead 0 0 156 [(0, zr 0), (1, zr 113), (2, zi x), (3, zi y), (4, zi 1), (5, zi n), (6, zi h), (7, zi k), (8, zi z)] [] zSp (cmb μ ν) v zSp M := by
  have r := lup_r (zshr z 2) (n := 3) (by decide)
  refine Az.blk kd_6_isRead_156 (show Ez md_6_isRead 0 0 161 [(0, zr 0), (1, zr 113), (2, zi x), (3, zi y), (4, zi 1), (5, zi n), (6, zi h), (7, zi k), (8, zi z)] [zi 3, zi (zshr z 2)] zSp (cmb μ ν) _ _ _ from ?_)
  refine Az.cS (mc := md_6_up) (n := 2) (As := [zi (zshr z 2), zi 3]) (rest := []) (Sh1 := zSp) (μ1 := cmb μ ν) (w := some (zi (lup (zshr z 2) 3))) kr_6_isRead_161 zw_180 ok_6_up rfl rfl (lz_up (zshr z 2) 3 (by omega)) rfl rfl (show Ez md_6_isRead 0 0 164 [(0, zr 0), (1, zr 113), (2, zi x), (3, zi y), (4, zi 1), (5, zi n), (6, zi h), (7, zi k), (8, zi z)] [zi (lup (zshr z 2) 3)] zSp (cmb μ ν) _ _ _ from ?_)
  refine Az.blk kd_6_isRead_164 (show zR (lup (zshr z 2) 3) ∧ ((¬ (lup (zshr z 2) 3) = 0 → Ez md_6_isRead 0 0 172 [(0, zr 0), (1, zr 113), (2, zi x), (3, zi y), (4, zi 1), (5, zi n), (6, zi h), (7, zi k), (8, zi z)] [] zSp (cmb μ ν) _ _ _) ∧ ((lup (zshr z 2) 3) = 0 → Ez md_6_isRead 0 0 167 [(0, zr 0), (1, zr 113), (2, zi x), (3, zi y), (4, zi 1), (5, zi n), (6, zi h), (7, zi k), (8, zi z)] [] zSp (cmb μ ν) _ _ _)) from ⟨(by omega), fun q1 => ?_, fun q1 => ?_⟩)
  · refine Az.blk kd_6_isRead_172 (show Ez md_6_isRead 0 0 177 [(0, zr 0), (1, zr 113), (2, zi x), (3, zi y), (4, zi 1), (5, zi n), (6, zi h), (7, zi k), (8, zi z)] [zi 3, zi (zshr z 2)] zSp (cmb μ ν) _ _ _ from ?_)
    refine Az.cS (mc := md_6_up) (n := 2) (As := [zi (zshr z 2), zi 3]) (rest := []) (Sh1 := zSp) (μ1 := cmb μ ν) (w := some (zi (lup (zshr z 2) 3))) kr_6_isRead_177 zw_180 ok_6_up rfl rfl (lz_up (zshr z 2) 3 (by omega)) rfl rfl (show Ez md_6_isRead 0 0 180 [(0, zr 0), (1, zr 113), (2, zi x), (3, zi y), (4, zi 1), (5, zi n), (6, zi h), (7, zi k), (8, zi z)] [zi (lup (zshr z 2) 3)] zSp (cmb μ ν) _ _ _ from ?_)
    refine Az.blk kd_6_isRead_180 (show zR (lup (zshr z 2) 3) ∧ zR 1 ∧ ((¬ (lup (zshr z 2) 3) = 1 → Ez md_6_isRead 0 0 189 [(0, zr 0), (1, zr 113), (2, zi x), (3, zi y), (4, zi 1), (5, zi n), (6, zi h), (7, zi k), (8, zi z)] [] zSp (cmb μ ν) _ _ _) ∧ ((lup (zshr z 2) 3) = 1 → Ez md_6_isRead 0 0 184 [(0, zr 0), (1, zr 113), (2, zi x), (3, zi y), (4, zi 1), (5, zi n), (6, zi h), (7, zi k), (8, zi z)] [] zSp (cmb μ ν) _ _ _)) from ⟨(by omega), (by omega), fun q2 => ?_, fun q2 => ?_⟩)
    · refine Az.blk kd_6_isRead_189 (show Ez md_6_isRead 0 0 193 [(9, zi 97), (0, zr 0), (1, zr 113), (2, zi x), (3, zi y), (4, zi 1), (5, zi n), (6, zi h), (7, zi k), (8, zi z)] [] zSp (cmb μ ν) _ _ _ from ?_)
      refine Az.lvs (lv' := [(0, zr 0), (1, zr 113), (2, zi x), (3, zi y), (4, zi 1), (5, zi n), (6, zi h), (7, zi k), (8, zi z), (9, zi 97)]) ?_ ?_
      · intro q hq; simp only [List.mem_cons, List.not_mem_nil, or_false] at hq; rcases hq with rfl | rfl | rfl | rfl | rfl | rfl | rfl | rfl | rfl | rfl <;> rfl
      rw [show kch (lup (zshr z 2) 3) = 97 from by unfold kch; rw [if_neg q1, if_neg q2]] at kk
      exact kk
    · refine Az.blk kd_6_isRead_184 (show Ez md_6_isRead 0 0 191 [(0, zr 0), (1, zr 113), (2, zi x), (3, zi y), (4, zi 1), (5, zi n), (6, zi h), (7, zi k), (8, zi z)] [zi 118] zSp (cmb μ ν) _ _ _ from ?_)
      refine Az.blk kd_6_isRead_191 (show Ez md_6_isRead 0 0 193 [(9, zi 118), (0, zr 0), (1, zr 113), (2, zi x), (3, zi y), (4, zi 1), (5, zi n), (6, zi h), (7, zi k), (8, zi z)] [] zSp (cmb μ ν) _ _ _ from ?_)
      refine Az.lvs (lv' := [(0, zr 0), (1, zr 113), (2, zi x), (3, zi y), (4, zi 1), (5, zi n), (6, zi h), (7, zi k), (8, zi z), (9, zi 118)]) ?_ ?_
      · intro q hq; simp only [List.mem_cons, List.not_mem_nil, or_false] at hq; rcases hq with rfl | rfl | rfl | rfl | rfl | rfl | rfl | rfl | rfl | rfl <;> rfl
      rw [show kch (lup (zshr z 2) 3) = 118 from by unfold kch; rw [if_neg q1, if_pos q2]] at kk
      exact kk
  · refine Az.blk kd_6_isRead_167 (show Ez md_6_isRead 0 0 191 [(0, zr 0), (1, zr 113), (2, zi x), (3, zi y), (4, zi 1), (5, zi n), (6, zi h), (7, zi k), (8, zi z)] [zi 110] zSp (cmb μ ν) _ _ _ from ?_)
    refine Az.blk kd_6_isRead_191 (show Ez md_6_isRead 0 0 193 [(9, zi 110), (0, zr 0), (1, zr 113), (2, zi x), (3, zi y), (4, zi 1), (5, zi n), (6, zi h), (7, zi k), (8, zi z)] [] zSp (cmb μ ν) _ _ _ from ?_)
    refine Az.lvs (lv' := [(0, zr 0), (1, zr 113), (2, zi x), (3, zi y), (4, zi 1), (5, zi n), (6, zi h), (7, zi k), (8, zi z), (9, zi 110)]) ?_ ?_
    · intro q hq; simp only [List.mem_cons, List.not_mem_nil, or_false] at hq; rcases hq with rfl | rfl | rfl | rfl | rfl | rfl | rfl | rfl | rfl | rfl <;> rfl
    rw [show kch (lup (zshr z 2) 3) = 110 from by unfold kch; rw [if_pos q1]] at kk
    exact kk
theorem ir_hole {x y n h k z c s t : Int} (R : R2 μ ν) (hm : μ 1 1 = s) (hn : ν 1 1 = s) (hs : 0 ≤ s ∧ s ≤ 50) (hc : 0 ≤ c ∧ c ≤ 65535) (ht : t = lup (zshr z 4) 3) : ∃ μ' ν' : zM, R2 μ' ν' ∧ μ' 1 1 = s + 3 ∧ ν' 1 1 = s + 3 ∧ (μ' 2 s = 35 ∧ μ' 2 (s + 1) = c ∧ μ' 2 (s + 2) = 48 + t) ∧ (ν' 2 s = 35 ∧ ν' 2 (s + 1) = c ∧ ν' 2 (s + 2) = 57 - t) ∧ (∀ p, p < s → μ' 2 p = μ 2 p ∧ ν' 2 p = ν 2 p) ∧ ∀ {v : Option zV} {M : zM}, Ez md_6_isRead 0 0 280 [(0, zr 0), (1, zr 113), (2, zi x), (3, zi y), (4, zi 1), (5, zi n), (6, zi (h + 1)), (7, zi k)] [] zSp (cmb μ' ν') v zSp M → Ez md_6_isRead 0 0 193 [(0, zr 0), (1, zr 113), (2, zi x), (3, zi y), (4, zi 1), (5, zi n), (6, zi h), (7, zi k), (8, zi z), (9, zi c)] [] zSp (cmb μ ν) v zSp M := by
  have tr := lup_r (zshr z 4) (n := 3) (by decide)
  rw [← ht] at tr
  have e1 := ty_eq (a := 35) hm (by omega)
  have f1 := ty_eq (a := 35) hn (by omega)
  have R1 := b_type R hm hn (a := 35) (b := 35) (by omega) (by omega) (by omega)
  have hm1 : (xx_type μ 35).2 1 1 = s + 1 := by rw [e1]; dsimp only; exact zup_self
  have hn1 : (xx_type ν 35).2 1 1 = s + 1 := by rw [f1]; dsimp only; exact zup_self
  have e2 := ty_eq (a := c) hm1 (by omega)
  have f2 := ty_eq (a := c) hn1 (by omega)
  have R2_ := b_type R1 hm1 hn1 (a := c) (b := c) (by omega) (by omega) (by omega)
  have hm2 : (xx_type (xx_type μ 35).2 c).2 1 1 = s + 1 + 1 := by rw [e2]; dsimp only; exact zup_self
  have hn2 : (xx_type (xx_type ν 35).2 c).2 1 1 = s + 1 + 1 := by rw [f2]; dsimp only; exact zup_self
  have e3 := ty_eq (a := 48 + t) hm2 (by omega)
  have f3 := ty_eq (a := 57 - t) hn2 (by omega)
  have R3 := b_type R2_ hm2 hn2 (a := 48 + t) (b := 57 - t) (by omega) (by omega) (by omega)
  have u1 : (xx_type μ 35).1 = s + 1 := by rw [e1]
  have u2 : (xx_type ν 35).1 = s + 1 := by rw [f1]
  have u3 : (xx_type (xx_type μ 35).2 c).1 = s + 1 + 1 := by rw [e2]
  have u4 : (xx_type (xx_type ν 35).2 c).1 = s + 1 + 1 := by rw [f2]
  have u5 : (xx_type (xx_type (xx_type μ 35).2 c).2 (48 + t)).1 = s + 1 + 1 + 1 := by rw [e3]
  have u6 : (xx_type (xx_type (xx_type ν 35).2 c).2 (57 - t)).1 = s + 1 + 1 + 1 := by rw [f3]
  have g : ∀ (M : zM) (a : Int) (m : Int), xx_type M a = (m + 1, zup (zup M 2 m a) 1 1 (m + 1)) → ∀ p, (xx_type M a).2 2 p = if p = m then a else M 2 p := fun M a m e p => by
    rw [e]
    dsimp only
    rw [zup_ne (show (2 : Nat) ≠ 1 by decide), zup_at]
  refine ⟨_, _, R3, by rw [e3]; dsimp only; rw [zup_self]; omega, by rw [f3]; dsimp only; rw [zup_self]; omega, ?_, ?_, fun p hp => ?_, fun {v M} kk => ?_⟩
  · rw [g _ _ _ e3, g _ _ _ e3, g _ _ _ e3, g _ _ _ e2, g _ _ _ e2, g _ _ _ e1]
    refine ⟨?_, ?_, ?_⟩
    · rw [if_neg (by omega), if_neg (by omega), if_pos rfl]
    · rw [if_neg (by omega), if_pos rfl]
    · rw [if_pos (by omega)]
  · rw [g _ _ _ f3, g _ _ _ f3, g _ _ _ f3, g _ _ _ f2, g _ _ _ f2, g _ _ _ f1]
    refine ⟨?_, ?_, ?_⟩
    · rw [if_neg (by omega), if_neg (by omega), if_pos rfl]
    · rw [if_neg (by omega), if_pos rfl]
    · rw [if_pos (by omega)]
  · rw [g _ _ _ e3, g _ _ _ e2, g _ _ _ e1, g _ _ _ f3, g _ _ _ f2, g _ _ _ f1, if_neg (by omega), if_neg (by omega), if_neg (by omega), if_neg (by omega), if_neg (by omega), if_neg (by omega)]
    exact ⟨rfl, rfl⟩
  · skip
    refine Az.blk kd_6_isRead_193 (show Ez md_6_isRead 0 0 198 [(0, zr 0), (1, zr 113), (2, zi x), (3, zi y), (4, zi 1), (5, zi n), (6, zi h), (7, zi k), (8, zi z), (9, zi c)] [zi 3, zi (zshr z 4)] zSp (cmb μ ν) _ _ _ from ?_)
    refine Az.cS (mc := md_6_up) (n := 2) (As := [zi (zshr z 4), zi 3]) (rest := []) (Sh1 := zSp) (μ1 := cmb μ ν) (w := some (zi (lup (zshr z 4) 3))) kr_6_isRead_198 zw_180 ok_6_up rfl rfl (lz_up (zshr z 4) 3 (by omega)) rfl rfl (show Ez md_6_isRead 0 0 201 [(0, zr 0), (1, zr 113), (2, zi x), (3, zi y), (4, zi 1), (5, zi n), (6, zi h), (7, zi k), (8, zi z), (9, zi c)] [zi (lup (zshr z 4) 3)] zSp (cmb μ ν) _ _ _ from ?_)
    rw [show (lup (zshr z 4) 3) = t from ht.symm]
    refine Az.blk kd_6_isRead_201 (show zR 1 ∧ (((1 : Int) = 0 → Ez md_6_isRead 0 0 274 [(10, zi t), (0, zr 0), (1, zr 113), (2, zi x), (3, zi y), (4, zi 1), (5, zi n), (6, zi h), (7, zi k), (8, zi z), (9, zi c)] [] zSp (cmb μ ν) _ _ _) ∧ (¬ (1 : Int) = 0 → Ez md_6_isRead 0 0 208 [(10, zi t), (0, zr 0), (1, zr 113), (2, zi x), (3, zi y), (4, zi 1), (5, zi n), (6, zi h), (7, zi k), (8, zi z), (9, zi c)] [] zSp (cmb μ ν) _ _ _)) from ⟨(by omega), fun h => absurd h (by decide), fun _ => ?_⟩)
    refine Az.blk kd_6_isRead_208 (show Ez md_6_isRead 0 0 211 [(10, zi t), (0, zr 0), (1, zr 113), (2, zi x), (3, zi y), (4, zi 1), (5, zi n), (6, zi h), (7, zi k), (8, zi z), (9, zi c)] [zi 35, zr 0] zSp (cmb μ ν) _ _ _ from ?_)
    refine Az.oV (mc := md_5_type) (n := 1) (As := [zi 35]) (rest := []) (z := (xx_type μ 35).1) kr_6_isRead_211 zw_184 ok_5_type rfl rfl rfl trivial rfl (xz_type R.B 35 R.P (by omega)) rfl rfl (show Ez md_6_isRead 0 0 214 [(10, zi t), (0, zr 0), (1, zr 113), (2, zi x), (3, zi y), (4, zi 1), (5, zi n), (6, zi h), (7, zi k), (8, zi z), (9, zi c)] [zi (xx_type μ 35).1] zSp (cmb (xx_type μ 35).2 ν) _ _ _ from ?_)
    refine Az.blk kd_6_isRead_214 (show zR (xx_type μ 35).1 ∧ ((¬ 0 < (xx_type μ 35).1 → Ez md_6_isRead 0 0 274 [(10, zi t), (0, zr 0), (1, zr 113), (2, zi x), (3, zi y), (4, zi 1), (5, zi n), (6, zi h), (7, zi k), (8, zi z), (9, zi c)] [] zSp (cmb (xx_type μ 35).2 ν) _ _ _) ∧ (0 < (xx_type μ 35).1 → Ez md_6_isRead 0 0 217 [(10, zi t), (0, zr 0), (1, zr 113), (2, zi x), (3, zi y), (4, zi 1), (5, zi n), (6, zi h), (7, zi k), (8, zi z), (9, zi c)] [] zSp (cmb (xx_type μ 35).2 ν) _ _ _)) from ⟨(by omega), fun h => absurd (show 0 < (xx_type μ 35).1 by omega) h, fun _ => ?_⟩)
    refine Az.blk kd_6_isRead_217 (show Ez md_6_isRead 0 0 220 [(10, zi t), (0, zr 0), (1, zr 113), (2, zi x), (3, zi y), (4, zi 1), (5, zi n), (6, zi h), (7, zi k), (8, zi z), (9, zi c)] [zi 35, zr 113] zSp (cmb (xx_type μ 35).2 ν) _ _ _ from ?_)
    refine Az.pV (mc := md_5_type) (n := 1) (As := [zi 35]) (rest := []) (z := (xx_type ν 35).1) kr_6_isRead_220 zw_184 ok_5_type rfl rfl rfl trivial rfl (xz_type R.B' 35 R.P' (by omega)) rfl rfl (show Ez md_6_isRead 0 0 223 [(10, zi t), (0, zr 0), (1, zr 113), (2, zi x), (3, zi y), (4, zi 1), (5, zi n), (6, zi h), (7, zi k), (8, zi z), (9, zi c)] [zi (xx_type ν 35).1] zSp (cmb (xx_type μ 35).2 (xx_type ν 35).2) _ _ _ from ?_)
    refine Az.blk kd_6_isRead_223 (show zR (xx_type ν 35).1 ∧ ((¬ 0 < (xx_type ν 35).1 → Ez md_6_isRead 0 0 274 [(10, zi t), (0, zr 0), (1, zr 113), (2, zi x), (3, zi y), (4, zi 1), (5, zi n), (6, zi h), (7, zi k), (8, zi z), (9, zi c)] [] zSp (cmb (xx_type μ 35).2 (xx_type ν 35).2) _ _ _) ∧ (0 < (xx_type ν 35).1 → Ez md_6_isRead 0 0 226 [(10, zi t), (0, zr 0), (1, zr 113), (2, zi x), (3, zi y), (4, zi 1), (5, zi n), (6, zi h), (7, zi k), (8, zi z), (9, zi c)] [] zSp (cmb (xx_type μ 35).2 (xx_type ν 35).2) _ _ _)) from ⟨(by omega), fun h => absurd (show 0 < (xx_type ν 35).1 by omega) h, fun _ => ?_⟩)
    refine Az.blk kd_6_isRead_226 (show Ez md_6_isRead 0 0 229 [(10, zi t), (0, zr 0), (1, zr 113), (2, zi x), (3, zi y), (4, zi 1), (5, zi n), (6, zi h), (7, zi k), (8, zi z), (9, zi c)] [zi c, zr 0] zSp (cmb (xx_type μ 35).2 (xx_type ν 35).2) _ _ _ from ?_)
    refine Az.oV (mc := md_5_type) (n := 1) (As := [zi c]) (rest := []) (z := (xx_type (xx_type μ 35).2 c).1) kr_6_isRead_229 zw_184 ok_5_type rfl rfl rfl trivial rfl (xz_type R1.B c R1.P (by omega)) rfl rfl (show Ez md_6_isRead 0 0 232 [(10, zi t), (0, zr 0), (1, zr 113), (2, zi x), (3, zi y), (4, zi 1), (5, zi n), (6, zi h), (7, zi k), (8, zi z), (9, zi c)] [zi (xx_type (xx_type μ 35).2 c).1] zSp (cmb (xx_type (xx_type μ 35).2 c).2 (xx_type ν 35).2) _ _ _ from ?_)
    refine Az.blk kd_6_isRead_232 (show zR (xx_type (xx_type μ 35).2 c).1 ∧ ((¬ 0 < (xx_type (xx_type μ 35).2 c).1 → Ez md_6_isRead 0 0 274 [(10, zi t), (0, zr 0), (1, zr 113), (2, zi x), (3, zi y), (4, zi 1), (5, zi n), (6, zi h), (7, zi k), (8, zi z), (9, zi c)] [] zSp (cmb (xx_type (xx_type μ 35).2 c).2 (xx_type ν 35).2) _ _ _) ∧ (0 < (xx_type (xx_type μ 35).2 c).1 → Ez md_6_isRead 0 0 235 [(10, zi t), (0, zr 0), (1, zr 113), (2, zi x), (3, zi y), (4, zi 1), (5, zi n), (6, zi h), (7, zi k), (8, zi z), (9, zi c)] [] zSp (cmb (xx_type (xx_type μ 35).2 c).2 (xx_type ν 35).2) _ _ _)) from ⟨(by omega), fun h => absurd (show 0 < (xx_type (xx_type μ 35).2 c).1 by omega) h, fun _ => ?_⟩)
    refine Az.blk kd_6_isRead_235 (show Ez md_6_isRead 0 0 238 [(10, zi t), (0, zr 0), (1, zr 113), (2, zi x), (3, zi y), (4, zi 1), (5, zi n), (6, zi h), (7, zi k), (8, zi z), (9, zi c)] [zi c, zr 113] zSp (cmb (xx_type (xx_type μ 35).2 c).2 (xx_type ν 35).2) _ _ _ from ?_)
    refine Az.pV (mc := md_5_type) (n := 1) (As := [zi c]) (rest := []) (z := (xx_type (xx_type ν 35).2 c).1) kr_6_isRead_238 zw_184 ok_5_type rfl rfl rfl trivial rfl (xz_type R1.B' c R1.P' (by omega)) rfl rfl (show Ez md_6_isRead 0 0 241 [(10, zi t), (0, zr 0), (1, zr 113), (2, zi x), (3, zi y), (4, zi 1), (5, zi n), (6, zi h), (7, zi k), (8, zi z), (9, zi c)] [zi (xx_type (xx_type ν 35).2 c).1] zSp (cmb (xx_type (xx_type μ 35).2 c).2 (xx_type (xx_type ν 35).2 c).2) _ _ _ from ?_)
    refine Az.blk kd_6_isRead_241 (show zR (xx_type (xx_type ν 35).2 c).1 ∧ ((¬ 0 < (xx_type (xx_type ν 35).2 c).1 → Ez md_6_isRead 0 0 274 [(10, zi t), (0, zr 0), (1, zr 113), (2, zi x), (3, zi y), (4, zi 1), (5, zi n), (6, zi h), (7, zi k), (8, zi z), (9, zi c)] [] zSp (cmb (xx_type (xx_type μ 35).2 c).2 (xx_type (xx_type ν 35).2 c).2) _ _ _) ∧ (0 < (xx_type (xx_type ν 35).2 c).1 → Ez md_6_isRead 0 0 244 [(10, zi t), (0, zr 0), (1, zr 113), (2, zi x), (3, zi y), (4, zi 1), (5, zi n), (6, zi h), (7, zi k), (8, zi z), (9, zi c)] [] zSp (cmb (xx_type (xx_type μ 35).2 c).2 (xx_type (xx_type ν 35).2 c).2) _ _ _)) from ⟨(by omega), fun h => absurd (show 0 < (xx_type (xx_type ν 35).2 c).1 by omega) h, fun _ => ?_⟩)
    refine Az.blk kd_6_isRead_244 (show Ez md_6_isRead 0 0 251 [(10, zi t), (0, zr 0), (1, zr 113), (2, zi x), (3, zi y), (4, zi 1), (5, zi n), (6, zi h), (7, zi k), (8, zi z), (9, zi c)] [zi ((48 + t) % 65536), zr 0] zSp (cmb (xx_type (xx_type μ 35).2 c).2 (xx_type (xx_type ν 35).2 c).2) _ _ _ from ?_)
    rw [show ((48 + t) % 65536) = (48 + t) from by omega]
    refine Az.oV (mc := md_5_type) (n := 1) (As := [zi (48 + t)]) (rest := []) (z := (xx_type (xx_type (xx_type μ 35).2 c).2 (48 + t)).1) kr_6_isRead_251 zw_184 ok_5_type rfl rfl rfl trivial rfl (xz_type R2_.B (48 + t) R2_.P (by omega)) rfl rfl (show Ez md_6_isRead 0 0 254 [(10, zi t), (0, zr 0), (1, zr 113), (2, zi x), (3, zi y), (4, zi 1), (5, zi n), (6, zi h), (7, zi k), (8, zi z), (9, zi c)] [zi (xx_type (xx_type (xx_type μ 35).2 c).2 (48 + t)).1] zSp (cmb (xx_type (xx_type (xx_type μ 35).2 c).2 (48 + t)).2 (xx_type (xx_type ν 35).2 c).2) _ _ _ from ?_)
    refine Az.blk kd_6_isRead_254 (show zR (xx_type (xx_type (xx_type μ 35).2 c).2 (48 + t)).1 ∧ ((¬ 0 < (xx_type (xx_type (xx_type μ 35).2 c).2 (48 + t)).1 → Ez md_6_isRead 0 0 274 [(10, zi t), (0, zr 0), (1, zr 113), (2, zi x), (3, zi y), (4, zi 1), (5, zi n), (6, zi h), (7, zi k), (8, zi z), (9, zi c)] [] zSp (cmb (xx_type (xx_type (xx_type μ 35).2 c).2 (48 + t)).2 (xx_type (xx_type ν 35).2 c).2) _ _ _) ∧ (0 < (xx_type (xx_type (xx_type μ 35).2 c).2 (48 + t)).1 → Ez md_6_isRead 0 0 257 [(10, zi t), (0, zr 0), (1, zr 113), (2, zi x), (3, zi y), (4, zi 1), (5, zi n), (6, zi h), (7, zi k), (8, zi z), (9, zi c)] [] zSp (cmb (xx_type (xx_type (xx_type μ 35).2 c).2 (48 + t)).2 (xx_type (xx_type ν 35).2 c).2) _ _ _)) from ⟨(by omega), fun h => absurd (show 0 < (xx_type (xx_type (xx_type μ 35).2 c).2 (48 + t)).1 by omega) h, fun _ => ?_⟩)
    refine Az.blk kd_6_isRead_257 (show Ez md_6_isRead 0 0 264 [(10, zi t), (0, zr 0), (1, zr 113), (2, zi x), (3, zi y), (4, zi 1), (5, zi n), (6, zi h), (7, zi k), (8, zi z), (9, zi c)] [zi ((57 - t) % 65536), zr 113] zSp (cmb (xx_type (xx_type (xx_type μ 35).2 c).2 (48 + t)).2 (xx_type (xx_type ν 35).2 c).2) _ _ _ from ?_)
    rw [show ((57 - t) % 65536) = (57 - t) from by omega]
    refine Az.pV (mc := md_5_type) (n := 1) (As := [zi (57 - t)]) (rest := []) (z := (xx_type (xx_type (xx_type ν 35).2 c).2 (57 - t)).1) kr_6_isRead_264 zw_184 ok_5_type rfl rfl rfl trivial rfl (xz_type R2_.B' (57 - t) R2_.P' (by omega)) rfl rfl (show Ez md_6_isRead 0 0 267 [(10, zi t), (0, zr 0), (1, zr 113), (2, zi x), (3, zi y), (4, zi 1), (5, zi n), (6, zi h), (7, zi k), (8, zi z), (9, zi c)] [zi (xx_type (xx_type (xx_type ν 35).2 c).2 (57 - t)).1] zSp (cmb (xx_type (xx_type (xx_type μ 35).2 c).2 (48 + t)).2 (xx_type (xx_type (xx_type ν 35).2 c).2 (57 - t)).2) _ _ _ from ?_)
    refine Az.blk kd_6_isRead_267 (show zR (xx_type (xx_type (xx_type ν 35).2 c).2 (57 - t)).1 ∧ ((¬ 0 < (xx_type (xx_type (xx_type ν 35).2 c).2 (57 - t)).1 → Ez md_6_isRead 0 0 274 [(10, zi t), (0, zr 0), (1, zr 113), (2, zi x), (3, zi y), (4, zi 1), (5, zi n), (6, zi h), (7, zi k), (8, zi z), (9, zi c)] [] zSp (cmb (xx_type (xx_type (xx_type μ 35).2 c).2 (48 + t)).2 (xx_type (xx_type (xx_type ν 35).2 c).2 (57 - t)).2) _ _ _) ∧ (0 < (xx_type (xx_type (xx_type ν 35).2 c).2 (57 - t)).1 → Ez md_6_isRead 0 0 270 [(10, zi t), (0, zr 0), (1, zr 113), (2, zi x), (3, zi y), (4, zi 1), (5, zi n), (6, zi h), (7, zi k), (8, zi z), (9, zi c)] [] zSp (cmb (xx_type (xx_type (xx_type μ 35).2 c).2 (48 + t)).2 (xx_type (xx_type (xx_type ν 35).2 c).2 (57 - t)).2) _ _ _)) from ⟨(by omega), fun h => absurd (show 0 < (xx_type (xx_type (xx_type ν 35).2 c).2 (57 - t)).1 by omega) h, fun _ => ?_⟩)
    refine Az.blk kd_6_isRead_270 (show Ez md_6_isRead 0 0 275 [(10, zi t), (0, zr 0), (1, zr 113), (2, zi x), (3, zi y), (4, zi 1), (5, zi n), (6, zi h), (7, zi k), (8, zi z), (9, zi c)] [zi 1] zSp (cmb (xx_type (xx_type (xx_type μ 35).2 c).2 (48 + t)).2 (xx_type (xx_type (xx_type ν 35).2 c).2 (57 - t)).2) _ _ _ from ?_)
    refine Az.blk kd_6_isRead_275 (show Ez md_6_isRead 0 0 280 [(6, zi (h + 1)), (4, zi 1), (10, zi t), (0, zr 0), (1, zr 113), (2, zi x), (3, zi y), (5, zi n), (7, zi k), (8, zi z), (9, zi c)] [] zSp (cmb (xx_type (xx_type (xx_type μ 35).2 c).2 (48 + t)).2 (xx_type (xx_type (xx_type ν 35).2 c).2 (57 - t)).2) _ _ _ from ?_)
    refine Az.lvs (lv' := [(0, zr 0), (1, zr 113), (2, zi x), (3, zi y), (4, zi 1), (5, zi n), (6, zi (h + 1)), (7, zi k)]) ?_ ?_
    · intro q hq; simp only [List.mem_cons, List.not_mem_nil, or_false] at hq; rcases hq with rfl | rfl | rfl | rfl | rfl | rfl | rfl | rfl <;> rfl
    exact kk
theorem ir_280 {x y n h k : Int} {v : Option zV} {M : zM} (kk : Ez md_6_isRead 0 0 37 [(0, zr 0), (1, zr 113), (2, zi x), (3, zi y), (4, zi 1), (5, zi n), (6, zi h), (7, zi (k + 1))] [] zSp (cmb μ ν) v zSp M) : Ez md_6_isRead 0 0 280 [(0, zr 0), (1, zr 113), (2, zi x), (3, zi y), (4, zi 1), (5, zi n), (6, zi h), (7, zi k)] [] zSp (cmb μ ν) v zSp M := by
  refine Az.blk kd_6_isRead_280 (show Ez md_6_isRead 0 0 37 [(7, zi (k + 1)), (0, zr 0), (1, zr 113), (2, zi x), (3, zi y), (4, zi 1), (5, zi n), (6, zi h)] [] zSp (cmb μ ν) _ _ _ from ?_)
  refine Az.lvs (lv' := [(0, zr 0), (1, zr 113), (2, zi x), (3, zi y), (4, zi 1), (5, zi n), (6, zi h), (7, zi (k + 1))]) ?_ ?_
  · intro q hq; simp only [List.mem_cons, List.not_mem_nil, or_false] at hq; rcases hq with rfl | rfl | rfl | rfl | rfl | rfl | rfl | rfl <;> rfl
  exact kk
theorem ir_153 {x y n h k z : Int} {v : Option zV} {M : zM} (kk : Ez md_6_isRead 0 0 280 [(0, zr 0), (1, zr 113), (2, zi x), (3, zi y), (4, zi 1), (5, zi n), (6, zi h), (7, zi k)] [] zSp (cmb μ ν) v zSp M) : Ez md_6_isRead 0 0 153 [(0, zr 0), (1, zr 113), (2, zi x), (3, zi y), (4, zi 1), (5, zi n), (6, zi h), (7, zi k), (8, zi z)] [] zSp (cmb μ ν) v zSp M := by
  refine Az.blk kd_6_isRead_153 (show Ez md_6_isRead 0 0 280 [(0, zr 0), (1, zr 113), (2, zi x), (3, zi y), (4, zi 1), (5, zi n), (6, zi h), (7, zi k), (8, zi z)] [] zSp (cmb μ ν) _ _ _ from ?_)
  refine Az.lvs (lv' := [(0, zr 0), (1, zr 113), (2, zi x), (3, zi y), (4, zi 1), (5, zi n), (6, zi h), (7, zi k)]) ?_ ?_
  · intro q hq; simp only [List.mem_cons, List.not_mem_nil, or_false] at hq; rcases hq with rfl | rfl | rfl | rfl | rfl | rfl | rfl | rfl <;> rfl
  exact kk
theorem ir_p92 {x y n h k z : Int} (q : lup z 4 = 0) {v : Option zV} {M : zM} (kk : Ez md_6_isRead 0 0 104 [(0, zr 0), (1, zr 113), (2, zi x), (3, zi y), (4, zi 1), (5, zi n), (6, zi h), (7, zi k), (8, zi z), (9, zi 0)] [] zSp (cmb μ ν) v zSp M) : Ez md_6_isRead 0 0 92 [(0, zr 0), (1, zr 113), (2, zi x), (3, zi y), (4, zi 1), (5, zi n), (6, zi h), (7, zi k), (8, zi z)] [] zSp (cmb μ ν) v zSp M := by
  have r := lup_r z (n := 4) (by decide)
  refine Az.blk kd_6_isRead_92 (show Ez md_6_isRead 0 0 95 [(0, zr 0), (1, zr 113), (2, zi x), (3, zi y), (4, zi 1), (5, zi n), (6, zi h), (7, zi k), (8, zi z)] [zi 4, zi z] zSp (cmb μ ν) _ _ _ from ?_)
  refine Az.cS (mc := md_6_up) (n := 2) (As := [zi z, zi 4]) (rest := []) (Sh1 := zSp) (μ1 := cmb μ ν) (w := some (zi (lup z 4))) kr_6_isRead_95 zw_180 ok_6_up rfl rfl (lz_up z 4 (by omega)) rfl rfl (show Ez md_6_isRead 0 0 98 [(0, zr 0), (1, zr 113), (2, zi x), (3, zi y), (4, zi 1), (5, zi n), (6, zi h), (7, zi k), (8, zi z)] [zi (lup z 4)] zSp (cmb μ ν) _ _ _ from ?_)
  refine Az.blk kd_6_isRead_98 (show zR (lup z 4) ∧ ((¬ (lup z 4) = 0 → Ez md_6_isRead 0 0 156 [(0, zr 0), (1, zr 113), (2, zi x), (3, zi y), (4, zi 1), (5, zi n), (6, zi h), (7, zi k), (8, zi z)] [] zSp (cmb μ ν) _ _ _) ∧ ((lup z 4) = 0 → Ez md_6_isRead 0 0 101 [(0, zr 0), (1, zr 113), (2, zi x), (3, zi y), (4, zi 1), (5, zi n), (6, zi h), (7, zi k), (8, zi z)] [] zSp (cmb μ ν) _ _ _)) from ⟨(by omega), fun h => absurd q h, fun _ => ?_⟩)
  refine Az.blk kd_6_isRead_101 (show Ez md_6_isRead 0 0 104 [(9, zi 0), (0, zr 0), (1, zr 113), (2, zi x), (3, zi y), (4, zi 1), (5, zi n), (6, zi h), (7, zi k), (8, zi z)] [] zSp (cmb μ ν) _ _ _ from ?_)
  refine Az.lvs (lv' := [(0, zr 0), (1, zr 113), (2, zi x), (3, zi y), (4, zi 1), (5, zi n), (6, zi h), (7, zi k), (8, zi z), (9, zi 0)]) ?_ ?_
  · intro q hq; simp only [List.mem_cons, List.not_mem_nil, or_false] at hq; rcases hq with rfl | rfl | rfl | rfl | rfl | rfl | rfl | rfl | rfl | rfl <;> rfl
  exact kk
theorem ir_h92 {x y n h k z : Int} (q : ¬ lup z 4 = 0) {v : Option zV} {M : zM} (kk : Ez md_6_isRead 0 0 156 [(0, zr 0), (1, zr 113), (2, zi x), (3, zi y), (4, zi 1), (5, zi n), (6, zi h), (7, zi k), (8, zi z)] [] zSp (cmb μ ν) v zSp M) : Ez md_6_isRead 0 0 92 [(0, zr 0), (1, zr 113), (2, zi x), (3, zi y), (4, zi 1), (5, zi n), (6, zi h), (7, zi k), (8, zi z)] [] zSp (cmb μ ν) v zSp M := by
  have r := lup_r z (n := 4) (by decide)
  refine Az.blk kd_6_isRead_92 (show Ez md_6_isRead 0 0 95 [(0, zr 0), (1, zr 113), (2, zi x), (3, zi y), (4, zi 1), (5, zi n), (6, zi h), (7, zi k), (8, zi z)] [zi 4, zi z] zSp (cmb μ ν) _ _ _ from ?_)
  refine Az.cS (mc := md_6_up) (n := 2) (As := [zi z, zi 4]) (rest := []) (Sh1 := zSp) (μ1 := cmb μ ν) (w := some (zi (lup z 4))) kr_6_isRead_95 zw_180 ok_6_up rfl rfl (lz_up z 4 (by omega)) rfl rfl (show Ez md_6_isRead 0 0 98 [(0, zr 0), (1, zr 113), (2, zi x), (3, zi y), (4, zi 1), (5, zi n), (6, zi h), (7, zi k), (8, zi z)] [zi (lup z 4)] zSp (cmb μ ν) _ _ _ from ?_)
  refine Az.blk kd_6_isRead_98 (show zR (lup z 4) ∧ ((¬ (lup z 4) = 0 → Ez md_6_isRead 0 0 156 [(0, zr 0), (1, zr 113), (2, zi x), (3, zi y), (4, zi 1), (5, zi n), (6, zi h), (7, zi k), (8, zi z)] [] zSp (cmb μ ν) _ _ _) ∧ ((lup z 4) = 0 → Ez md_6_isRead 0 0 101 [(0, zr 0), (1, zr 113), (2, zi x), (3, zi y), (4, zi 1), (5, zi n), (6, zi h), (7, zi k), (8, zi z)] [] zSp (cmb μ ν) _ _ _)) from ⟨(by omega), fun _ => ?_, fun h => absurd h q⟩)
  refine Az.lvs (lv' := [(0, zr 0), (1, zr 113), (2, zi x), (3, zi y), (4, zi 1), (5, zi n), (6, zi h), (7, zi k), (8, zi z)]) ?_ ?_
  · intro q hq; simp only [List.mem_cons, List.not_mem_nil, or_false] at hq; rcases hq with rfl | rfl | rfl | rfl | rfl | rfl | rfl | rfl | rfl <;> rfl
  exact kk

theorem ir_37 {x y n h k : Int} (hk : n ≤ k) (hr : 0 ≤ n ∧ n ≤ 9 ∧ k ≤ 9) {v : Option zV} {M : zM} (kk : Ez md_6_isRead 0 0 286 [(0, zr 0), (1, zr 113), (2, zi x), (3, zi y), (4, zi 1), (5, zi n), (6, zi h)] [] zSp (cmb μ ν) v zSp M) : Ez md_6_isRead 0 0 37 [(0, zr 0), (1, zr 113), (2, zi x), (3, zi y), (4, zi 1), (5, zi n), (6, zi h), (7, zi k)] [] zSp (cmb μ ν) v zSp M := by
  refine Az.blk kd_6_isRead_37 (show zR k ∧ zR n ∧ ((¬ k < n → Ez md_6_isRead 0 0 286 [(0, zr 0), (1, zr 113), (2, zi x), (3, zi y), (4, zi 1), (5, zi n), (6, zi h), (7, zi k)] [] zSp (cmb μ ν) _ _ _) ∧ (k < n → Ez md_6_isRead 0 0 44 [(0, zr 0), (1, zr 113), (2, zi x), (3, zi y), (4, zi 1), (5, zi n), (6, zi h), (7, zi k)] [] zSp (cmb μ ν) _ _ _)) from ⟨(by omega), (by omega), fun _ => ?_, fun h => absurd h (show ¬ k < n by omega)⟩)
  refine Az.lvs (lv' := [(0, zr 0), (1, zr 113), (2, zi x), (3, zi y), (4, zi 1), (5, zi n), (6, zi h)]) ?_ ?_
  · intro q hq; simp only [List.mem_cons, List.not_mem_nil, or_false] at hq; rcases hq with rfl | rfl | rfl | rfl | rfl | rfl | rfl <;> rfl
  exact kk
/-- one item more -/
theorem tx_ext {μ' ν' : zM} {k m K t : Int} {st ln kd ti : Int → Int} (T : TX μ ν k st ln kd ti) (k0 : 0 ≤ k) (s0 : 0 ≤ st k) (hA : ∀ p, p < st k - 1 → μ' 2 p = μ 2 p ∧ ν' 2 p = ν 2 p) (hB : 0 < k → μ' 2 (st k - 1) = 32 ∧ ν' 2 (st k - 1) = 32)
    (hI : (K = -1 ∧ (1 ≤ m ∧ m ≤ 10) ∧ ∀ p, 0 ≤ p → p < m → 97 ≤ μ' 2 (st k + p) ∧ μ' 2 (st k + p) ≤ 122 ∧ ν' 2 (st k + p) = nsg (μ' 2 (st k + p))) ∨ ((0 ≤ K ∧ K ≤ 2) ∧ m = 3 ∧ (0 ≤ t ∧ t ≤ 9) ∧ μ' 2 (st k) = 35 ∧ μ' 2 (st k + 1) = kch K ∧ μ' 2 (st k + 2) = 48 + t ∧ ν' 2 (st k) = 35 ∧ ν' 2 (st k + 1) = kch K ∧ ν' 2 (st k + 2) = 57 - t)) :
    TX μ' ν' (k + 1) (fun i => if i = k + 1 then st k + m + 1 else st i) (fun i => if i = k then m else ln i) (fun i => if i = k then K else kd i) (fun i => if i = k then t else ti i) := by
  have TL := T.l (c := μ) rfl
  refine ⟨by dsimp only; rw [if_neg (by omega)]; exact T.1, fun i i0 i1 => ?_⟩
  by_cases q : i = k
  · rw [q]
    simp only [if_pos, if_neg (show ¬ k = k + 1 by omega)]
    exact ⟨trivial, s0, fun w => hB w, hI⟩
  · obtain ⟨a, b, e, f⟩ := T.2 i i0 (by omega)
    have te := td_end TL i0 (show i < k by omega)
    simp only [if_neg q, if_neg (show ¬ i = k + 1 by omega), if_neg (show ¬ i + 1 = k + 1 by omega)]
    refine ⟨a, b, fun w => ?_, ?_⟩
    · rw [(hA (st i - 1) (by omega)).1, (hA (st i - 1) (by omega)).2]; exact e w
    · rcases f with ⟨f1, f2, f3⟩ | ⟨f1, f2, f3, f4⟩
      · refine Or.inl ⟨f1, f2, fun p p0 p1 => ?_⟩
        rw [(hA (st i + p) (by omega)).1, (hA (st i + p) (by omega)).2]; exact f3 p p0 p1
      · refine Or.inr ⟨f1, f2, f3, ?_⟩
        rw [(hA (st i) (by omega)).1, (hA (st i + 1) (by omega)).1, (hA (st i + 2) (by omega)).1, (hA (st i) (by omega)).2, (hA (st i + 1) (by omega)).2, (hA (st i + 2) (by omega)).2]; exact f4
theorem hcn_ext (kd : Int → Int) {k K : Int} (k0 : 0 ≤ k) : hcn (fun i => if i = k then K else kd i) (k + 1) = hcn kd k + (if K = -1 then 0 else 1) := by
  rw [hcn_s _ k0, if_pos rfl]
  have e : hcn (fun i => if i = k then K else kd i) k = hcn kd k := by
    unfold hcn
    exact sm_cong (fun j j0 j1 => by simp only [if_neg (show ¬ j = k by omega)])
  rw [e]
theorem ir_loop {x y n : Int} (hn : 1 ≤ n ∧ n ≤ 9) : ∀ (d : Nat) (k : Int) (μ ν : zM) (st ln kd ti : Int → Int), R2 μ ν → TX μ ν k st ln kd ti → 0 ≤ st k → st k ≤ 5 * k → μ 1 1 = (if k = 0 then 0 else st k - 1) → ν 1 1 = (if k = 0 then 0 else st k - 1) → 0 ≤ k → k + d = n →
    ∃ (μ' ν' : zM) (st' ln' kd' ti' : Int → Int), R2 μ' ν' ∧ TX μ' ν' n st' ln' kd' ti' ∧ μ' 1 1 = st' n - 1 ∧ ν' 1 1 = st' n - 1 ∧ st' n ≤ 5 * n ∧ ∀ {v : Option zV} {M : zM}, Ez md_6_isRead 0 0 286 [(0, zr 0), (1, zr 113), (2, zi x), (3, zi y), (4, zi 1), (5, zi n), (6, zi (hcn kd' n))] [] zSp (cmb μ' ν') v zSp M → Ez md_6_isRead 0 0 37 [(0, zr 0), (1, zr 113), (2, zi x), (3, zi y), (4, zi 1), (5, zi n), (6, zi (hcn kd k)), (7, zi k)] [] zSp (cmb μ ν) v zSp M := by
  intro d
  induction d with
  | zero =>
    intro k μ ν st ln kd ti R T s0 s1 l1 l2 k0 hk
    obtain rfl : k = n := by omega
    rw [if_neg (by omega)] at l1 l2
    exact ⟨μ, ν, st, ln, kd, ti, R, T, l1, l2, s1, fun {v M} kk => ir_37 (Int.le_refl _) (by omega) kk⟩
  | succ d ih =>
    intro k μ ν st ln kd ti R T s0 s1 l1 l2 k0 hk
    have up := td_up (T.l (c := μ) rfl) k.toNat 0 (by omega) (by omega)
    rw [show (0 : Int) + ((k.toNat : Nat) : Int) = k by omega, T.1] at up
    obtain ⟨μ1, ν1, R1, m1, n1, b1, same1, w1⟩ := ir_blank (x := x) (y := y) (n := n) (h := hcn kd k) (k := k) R l1 l2 (by split <;> omega) (by omega) (by omega)
    have e1 : (if k = 0 then (if k = 0 then 0 else st k - 1) else (if k = 0 then 0 else st k - 1) + 1) = st k := by
      by_cases q : k = 0
      · rw [if_pos q, if_pos q, q]; exact T.1.symm
      · rw [if_neg q, if_neg q]; omega
    rw [e1] at m1 n1
    have e2 : ∀ p, p < st k - 1 → μ1 2 p = μ 2 p ∧ ν1 2 p = ν 2 p := fun p hp => same1 p (by
      by_cases q : k = 0
      · rw [if_pos q]; rw [q, T.1] at hp; omega
      · rw [if_neg q]; exact hp)
    have e3 : 0 < k → μ1 2 (st k - 1) = 32 ∧ ν1 2 (st k - 1) = 32 := fun w => by
      have := b1 w
      rw [if_neg (by omega)] at this
      exact this
    obtain ⟨z, hz⟩ : ∃ z, z = zxor (zshr x k) (zshr y (2 * k)) := ⟨_, rfl⟩
    rw [← hz] at w1
    by_cases q : lup z 4 = 0
    · obtain ⟨U, hU⟩ : ∃ U, U = lup (zshr z 2) 4 := ⟨_, rfl⟩
      have ur := lup_r (zshr z 2) (n := 4) (by decide)
      rw [← hU] at ur
      obtain ⟨μ2, ν2, R2', m2, n2, t2, same2, w2⟩ := ir_let (x := x) (y := y) (n := n) (h := hcn kd k) (k := k) hU (s := st k) (by omega) (U + 1).toNat 0 μ1 ν1 R1 (by omega) (by omega) (fun p p0 p1 => by omega) (by omega) (by omega)
      have T2 := tx_ext (μ' := μ2) (ν' := ν2) (m := U + 1) (K := -1) (t := 0) T k0 s0 (fun p hp => by rw [(same2 p (by omega)).1, (same2 p (by omega)).2]; exact e2 p hp) (fun w => by rw [(same2 _ (by omega)).1, (same2 _ (by omega)).2]; exact e3 w) (Or.inl ⟨rfl, by omega, t2⟩)
      obtain ⟨μ', ν', st', ln', kd', ti', R', T', l1', l2', l3', w'⟩ := ih (k + 1) μ2 ν2 _ _ _ _ R2' T2 (by rw [if_pos rfl]; omega) (by rw [if_pos rfl]; omega) (by rw [if_neg (by omega), if_pos rfl, m2]; omega) (by rw [if_neg (by omega), if_pos rfl, n2]; omega) (by omega) (by omega)
      refine ⟨μ', ν', st', ln', kd', ti', R', T', l1', l2', l3', fun {v M} kk => ?_⟩
      have w3 := w' kk
      rw [hcn_ext kd k0, if_pos rfl, Int.add_zero] at w3
      exact w1 (ir_p92 q (w2 (ir_153 (ir_280 w3))))
    · obtain ⟨t, ht⟩ : ∃ t, t = lup (zshr z 4) 3 := ⟨_, rfl⟩
      have tr := lup_r (zshr z 4) (n := 3) (by decide)
      rw [← ht] at tr
      have kr := lup_r (zshr z 2) (n := 3) (by decide)
      have kc : 0 ≤ kch (lup (zshr z 2) 3) ∧ kch (lup (zshr z 2) 3) ≤ 65535 := by
        unfold kch
        repeat' split
        all_goals omega
      obtain ⟨μ2, ν2, R2', m2, n2, ⟨t1, t2, t3⟩, ⟨u1, u2, u3⟩, same2, w2⟩ := ir_hole (x := x) (y := y) (n := n) (h := hcn kd k) (k := k) (z := z) (c := kch (lup (zshr z 2) 3)) R1 m1 n1 (by omega) kc ht
      have T2 := tx_ext (μ' := μ2) (ν' := ν2) (m := 3) (K := lup (zshr z 2) 3) (t := t) T k0 s0 (fun p hp => by rw [(same2 p (by omega)).1, (same2 p (by omega)).2]; exact e2 p hp) (fun w => by rw [(same2 _ (by omega)).1, (same2 _ (by omega)).2]; exact e3 w) (Or.inr ⟨by omega, rfl, by omega, t1, t2, t3, u1, u2, u3⟩)
      obtain ⟨μ', ν', st', ln', kd', ti', R', T', l1', l2', l3', w'⟩ := ih (k + 1) μ2 ν2 _ _ _ _ R2' T2 (by rw [if_pos rfl]; omega) (by rw [if_pos rfl]; omega) (by rw [if_neg (by omega), if_pos rfl, m2]; omega) (by rw [if_neg (by omega), if_pos rfl, n2]; omega) (by omega) (by omega)
      refine ⟨μ', ν', st', ln', kd', ti', R', T', l1', l2', l3', fun {v M} kk => ?_⟩
      have w3 := w' kk
      rw [hcn_ext kd k0, if_neg (by omega)] at w3
      exact w1 (ir_h92 q (ir_kind (w2 (ir_280 w3))))

theorem ir_end {x y n h : Int} {st ln kd ti : Int → Int} (R : R2 μ ν) (T : TX μ ν n st ln kd ti) (hn : 1 ≤ n ∧ n ≤ 9) (hh : h = hcn kd n) (hL : μ 1 1 = st n - 1) (hL' : ν 1 1 = st n - 1) (h61 : st n ≤ 61) : Ez md_6_isRead 0 0 286 [(0, zr 0), (1, zr 113), (2, zi x), (3, zi y), (4, zi 1), (5, zi n), (6, zi h)] [] zSp (cmb μ ν) (some (zi 1)) zSp (cmb (xx_readTale μ).2 (xx_readTale ν).2) := by
  obtain ⟨a1, a2, a3, a4, a5, a6, a7, Ra⟩ := b_readTale R T (by omega) hL hL' h61
  rw [← hh] at a2 a3 a5 a6
  refine Az.blk kd_6_isRead_286 (show zR 1 ∧ (((1 : Int) = 0 → Ez md_6_isRead 0 0 361 [(0, zr 0), (1, zr 113), (2, zi x), (3, zi y), (4, zi 1), (5, zi n), (6, zi h)] [] zSp (cmb μ ν) _ _ _) ∧ (¬ (1 : Int) = 0 → Ez md_6_isRead 0 0 291 [(0, zr 0), (1, zr 113), (2, zi x), (3, zi y), (4, zi 1), (5, zi n), (6, zi h)] [] zSp (cmb μ ν) _ _ _)) from ⟨(by omega), fun h => absurd h (by decide), fun _ => ?_⟩)
  refine Az.blk kd_6_isRead_291 (show Ez md_6_isRead 0 0 293 [(0, zr 0), (1, zr 113), (2, zi x), (3, zi y), (4, zi 1), (5, zi n), (6, zi h)] [zi 1, zr 0] zSp (cmb μ ν) _ _ _ from ?_)
  refine Az.oV (mc := md_5_fault) (n := 1) (As := [zi 1]) (rest := []) (z := (xx_fault μ 1)) kr_6_isRead_293 zw_195 ok_5_fault rfl rfl rfl trivial rfl (xz_fault R.B 1 (by omega)) rfl rfl (show Ez md_6_isRead 0 0 296 [(0, zr 0), (1, zr 113), (2, zi x), (3, zi y), (4, zi 1), (5, zi n), (6, zi h)] [zi (xx_fault μ 1)] zSp (cmb μ ν) _ _ _ from ?_)
  refine Az.blk kd_6_isRead_296 (show Ez md_6_isRead 0 0 298 [(0, zr 0), (1, zr 113), (2, zi x), (3, zi y), (4, zi 1), (5, zi n), (6, zi h)] [zi (-5), zi (xx_fault μ 1)] zSp (cmb μ ν) _ _ _ from ?_)
  refine Az.icne (tg := 361) (a := (xx_fault μ 1)) (b := (-5)) kr_6_isRead_298 (by decide) rfl (a1) (show Ez md_6_isRead 0 0 301 [(0, zr 0), (1, zr 113), (2, zi x), (3, zi y), (4, zi 1), (5, zi n), (6, zi h)] [] zSp (cmb μ ν) _ _ _ from ?_)
  refine Az.blk kd_6_isRead_301 (show Ez md_6_isRead 0 0 302 [(0, zr 0), (1, zr 113), (2, zi x), (3, zi y), (4, zi 1), (5, zi n), (6, zi h)] [zr 0] zSp (cmb μ ν) _ _ _ from ?_)
  refine Az.oV (mc := md_5_readTale) (n := 0) (As := []) (rest := []) (z := (xx_readTale μ).1) kr_6_isRead_302 zw_242 ok_5_readTale rfl rfl rfl trivial rfl (xz_readTale R.B R.P) rfl rfl (show Ez md_6_isRead 0 0 305 [(0, zr 0), (1, zr 113), (2, zi x), (3, zi y), (4, zi 1), (5, zi n), (6, zi h)] [zi (xx_readTale μ).1] zSp (cmb (xx_readTale μ).2 ν) _ _ _ from ?_)
  refine Az.blk kd_6_isRead_305 (show Ez md_6_isRead 0 0 307 [(0, zr 0), (1, zr 113), (2, zi x), (3, zi y), (4, zi 1), (5, zi n), (6, zi h)] [zi h, zi (xx_readTale μ).1] zSp (cmb (xx_readTale μ).2 ν) _ _ _ from ?_)
  refine Az.icne (tg := 361) (a := (xx_readTale μ).1) (b := h) kr_6_isRead_307 (by decide) rfl (a2) (show Ez md_6_isRead 0 0 310 [(0, zr 0), (1, zr 113), (2, zi x), (3, zi y), (4, zi 1), (5, zi n), (6, zi h)] [] zSp (cmb (xx_readTale μ).2 ν) _ _ _ from ?_)
  refine Az.blk kd_6_isRead_310 (show Ez md_6_isRead 0 0 311 [(0, zr 0), (1, zr 113), (2, zi x), (3, zi y), (4, zi 1), (5, zi n), (6, zi h)] [zr 113] zSp (cmb (xx_readTale μ).2 ν) _ _ _ from ?_)
  refine Az.pV (mc := md_5_readTale) (n := 0) (As := []) (rest := []) (z := (xx_readTale ν).1) kr_6_isRead_311 zw_242 ok_5_readTale rfl rfl rfl trivial rfl (xz_readTale R.B' R.P') rfl rfl (show Ez md_6_isRead 0 0 314 [(0, zr 0), (1, zr 113), (2, zi x), (3, zi y), (4, zi 1), (5, zi n), (6, zi h)] [zi (xx_readTale ν).1] zSp (cmb (xx_readTale μ).2 (xx_readTale ν).2) _ _ _ from ?_)
  refine Az.blk kd_6_isRead_314 (show Ez md_6_isRead 0 0 316 [(0, zr 0), (1, zr 113), (2, zi x), (3, zi y), (4, zi 1), (5, zi n), (6, zi h)] [zi h, zi (xx_readTale ν).1] zSp (cmb (xx_readTale μ).2 (xx_readTale ν).2) _ _ _ from ?_)
  refine Az.icne (tg := 361) (a := (xx_readTale ν).1) (b := h) kr_6_isRead_316 (by decide) rfl (a3) (show Ez md_6_isRead 0 0 319 [(0, zr 0), (1, zr 113), (2, zi x), (3, zi y), (4, zi 1), (5, zi n), (6, zi h)] [] zSp (cmb (xx_readTale μ).2 (xx_readTale ν).2) _ _ _ from ?_)
  refine Az.blk kd_6_isRead_319 (show Ez md_6_isRead 0 0 321 [(0, zr 0), (1, zr 113), (2, zi x), (3, zi y), (4, zi 1), (5, zi n), (6, zi h)] [zi 1, zr 0] zSp (cmb (xx_readTale μ).2 (xx_readTale ν).2) _ _ _ from ?_)
  refine Az.oV (mc := md_5_count) (n := 1) (As := [zi 1]) (rest := []) (z := (xx_count (xx_readTale μ).2 1)) kr_6_isRead_321 zw_296 ok_5_count rfl rfl rfl trivial rfl (xz_count Ra.B 1 (by omega)) rfl rfl (show Ez md_6_isRead 0 0 324 [(0, zr 0), (1, zr 113), (2, zi x), (3, zi y), (4, zi 1), (5, zi n), (6, zi h)] [zi (xx_count (xx_readTale μ).2 1)] zSp (cmb (xx_readTale μ).2 (xx_readTale ν).2) _ _ _ from ?_)
  refine Az.blk kd_6_isRead_324 (show Ez md_6_isRead 0 0 326 [(0, zr 0), (1, zr 113), (2, zi x), (3, zi y), (4, zi 1), (5, zi n), (6, zi h)] [zi n, zi (xx_count (xx_readTale μ).2 1)] zSp (cmb (xx_readTale μ).2 (xx_readTale ν).2) _ _ _ from ?_)
  refine Az.icne (tg := 361) (a := (xx_count (xx_readTale μ).2 1)) (b := n) kr_6_isRead_326 (by decide) rfl (a4) (show Ez md_6_isRead 0 0 329 [(0, zr 0), (1, zr 113), (2, zi x), (3, zi y), (4, zi 1), (5, zi n), (6, zi h)] [] zSp (cmb (xx_readTale μ).2 (xx_readTale ν).2) _ _ _ from ?_)
  refine Az.blk kd_6_isRead_329 (show Ez md_6_isRead 0 0 331 [(0, zr 0), (1, zr 113), (2, zi x), (3, zi y), (4, zi 1), (5, zi n), (6, zi h)] [zi 2, zr 0] zSp (cmb (xx_readTale μ).2 (xx_readTale ν).2) _ _ _ from ?_)
  refine Az.oV (mc := md_5_count) (n := 1) (As := [zi 2]) (rest := []) (z := (xx_count (xx_readTale μ).2 2)) kr_6_isRead_331 zw_296 ok_5_count rfl rfl rfl trivial rfl (xz_count Ra.B 2 (by omega)) rfl rfl (show Ez md_6_isRead 0 0 334 [(0, zr 0), (1, zr 113), (2, zi x), (3, zi y), (4, zi 1), (5, zi n), (6, zi h)] [zi (xx_count (xx_readTale μ).2 2)] zSp (cmb (xx_readTale μ).2 (xx_readTale ν).2) _ _ _ from ?_)
  refine Az.blk kd_6_isRead_334 (show Ez md_6_isRead 0 0 336 [(0, zr 0), (1, zr 113), (2, zi x), (3, zi y), (4, zi 1), (5, zi n), (6, zi h)] [zi h, zi (xx_count (xx_readTale μ).2 2)] zSp (cmb (xx_readTale μ).2 (xx_readTale ν).2) _ _ _ from ?_)
  refine Az.icne (tg := 361) (a := (xx_count (xx_readTale μ).2 2)) (b := h) kr_6_isRead_336 (by decide) rfl (a5) (show Ez md_6_isRead 0 0 339 [(0, zr 0), (1, zr 113), (2, zi x), (3, zi y), (4, zi 1), (5, zi n), (6, zi h)] [] zSp (cmb (xx_readTale μ).2 (xx_readTale ν).2) _ _ _ from ?_)
  refine Az.blk kd_6_isRead_339 (show Ez md_6_isRead 0 0 341 [(0, zr 0), (1, zr 113), (2, zi x), (3, zi y), (4, zi 1), (5, zi n), (6, zi h)] [zi 3, zr 0] zSp (cmb (xx_readTale μ).2 (xx_readTale ν).2) _ _ _ from ?_)
  refine Az.oV (mc := md_5_count) (n := 1) (As := [zi 3]) (rest := []) (z := (xx_count (xx_readTale μ).2 3)) kr_6_isRead_341 zw_296 ok_5_count rfl rfl rfl trivial rfl (xz_count Ra.B 3 (by omega)) rfl rfl (show Ez md_6_isRead 0 0 344 [(0, zr 0), (1, zr 113), (2, zi x), (3, zi y), (4, zi 1), (5, zi n), (6, zi h)] [zi (xx_count (xx_readTale μ).2 3)] zSp (cmb (xx_readTale μ).2 (xx_readTale ν).2) _ _ _ from ?_)
  refine Az.blk kd_6_isRead_344 (show Ez md_6_isRead 0 0 346 [(0, zr 0), (1, zr 113), (2, zi x), (3, zi y), (4, zi 1), (5, zi n), (6, zi h)] [zi h, zi (xx_count (xx_readTale μ).2 3)] zSp (cmb (xx_readTale μ).2 (xx_readTale ν).2) _ _ _ from ?_)
  refine Az.icne (tg := 361) (a := (xx_count (xx_readTale μ).2 3)) (b := h) kr_6_isRead_346 (by decide) rfl (a6) (show Ez md_6_isRead 0 0 349 [(0, zr 0), (1, zr 113), (2, zi x), (3, zi y), (4, zi 1), (5, zi n), (6, zi h)] [] zSp (cmb (xx_readTale μ).2 (xx_readTale ν).2) _ _ _ from ?_)
  refine Az.blk kd_6_isRead_349 (show Ez md_6_isRead 0 0 351 [(0, zr 0), (1, zr 113), (2, zi x), (3, zi y), (4, zi 1), (5, zi n), (6, zi h)] [zi 5, zr 0] zSp (cmb (xx_readTale μ).2 (xx_readTale ν).2) _ _ _ from ?_)
  refine Az.oV (mc := md_5_count) (n := 1) (As := [zi 5]) (rest := []) (z := (xx_count (xx_readTale μ).2 5)) kr_6_isRead_351 zw_296 ok_5_count rfl rfl rfl trivial rfl (xz_count Ra.B 5 (by omega)) rfl rfl (show Ez md_6_isRead 0 0 354 [(0, zr 0), (1, zr 113), (2, zi x), (3, zi y), (4, zi 1), (5, zi n), (6, zi h)] [zi (xx_count (xx_readTale μ).2 5)] zSp (cmb (xx_readTale μ).2 (xx_readTale ν).2) _ _ _ from ?_)
  refine Az.blk kd_6_isRead_354 (show zR (xx_count (xx_readTale μ).2 5) ∧ ((¬ (xx_count (xx_readTale μ).2 5) = 0 → Ez md_6_isRead 0 0 361 [(0, zr 0), (1, zr 113), (2, zi x), (3, zi y), (4, zi 1), (5, zi n), (6, zi h)] [] zSp (cmb (xx_readTale μ).2 (xx_readTale ν).2) _ _ _) ∧ ((xx_count (xx_readTale μ).2 5) = 0 → Ez md_6_isRead 0 0 357 [(0, zr 0), (1, zr 113), (2, zi x), (3, zi y), (4, zi 1), (5, zi n), (6, zi h)] [] zSp (cmb (xx_readTale μ).2 (xx_readTale ν).2) _ _ _)) from ⟨(by omega), fun h => absurd a7 h, fun _ => ?_⟩)
  refine Az.blk kd_6_isRead_357 (show Ez md_6_isRead 0 0 362 [(0, zr 0), (1, zr 113), (2, zi x), (3, zi y), (4, zi 1), (5, zi n), (6, zi h)] [zi 1] zSp (cmb (xx_readTale μ).2 (xx_readTale ν).2) _ _ _ from ?_)
  exact Ez.zret kr_6_isRead_362 rfl (Nat.zero_le _) (Nat.zero_le _) (Or.inr rfl) rfl rfl
theorem lz_isRead (R : R2 μ ν) (x y : Int) : ∃ μ' ν' : zM, R2 μ' ν' ∧ Dz md_6_isRead [zr 0, zr 113, zi x, zi y] zSp (cmb μ ν) (some (zi 1)) zSp (cmb μ' ν') := by
  have R0 := b_clear R
  have c1 : 0 ≤ (xx_clearText μ).1 ∧ (xx_clearText μ).1 ≤ 60 := text_b R.B
  have c2 : 0 ≤ (xx_clearText ν).1 ∧ (xx_clearText ν).1 ≤ 60 := text_b R.B'
  obtain ⟨n, hn⟩ : ∃ n, n = 1 + lup x 9 := ⟨_, rfl⟩
  have r1 := lup_r x (n := 9) (by decide)
  have nr : 1 ≤ n ∧ n ≤ 9 := by rw [hn]; omega
  obtain ⟨μ1, ν1, st, ln, kd, ti, R1, T1, l1, l2, l3, kk⟩ := ir_loop (x := x) (y := y) nr n.toNat 0 (xx_clearText μ).2 (xx_clearText ν).2 (fun _ => 0) (fun _ => 0) (fun _ => 0) (fun _ => 0) R0 ⟨rfl, fun i i0 i1 => by omega⟩ (by decide) (by decide) (by rw [cl_eq, if_pos rfl]; dsimp only; exact zup_self) (by rw [cl_eq, if_pos rfl]; dsimp only; exact zup_self) (by decide) (by omega)
  obtain ⟨-, -, -, -, -, -, -, Ra⟩ := b_readTale R1 T1 (by omega) l1 l2 (by omega)
  rw [hcn_0] at kk
  refine ⟨_, _, Ra, Dz.of (by decide) rfl rfl (show Ez md_6_isRead 0 0 0 [(0, zr 0), (1, zr 113), (2, zi x), (3, zi y)] [] zSp (cmb μ ν) _ zSp _ from ?_)⟩
  refine Az.blk kd_6_isRead_0 (show Ez md_6_isRead 0 0 1 [(0, zr 0), (1, zr 113), (2, zi x), (3, zi y)] [zr 0] zSp (cmb μ ν) _ _ _ from ?_)
  refine Az.oV (mc := md_5_clearText) (n := 0) (As := []) (rest := []) (z := (xx_clearText μ).1) kr_6_isRead_1 zw_176 ok_5_clearText rfl rfl rfl trivial rfl (xz_clearText R.B R.P) rfl rfl (show Ez md_6_isRead 0 0 4 [(0, zr 0), (1, zr 113), (2, zi x), (3, zi y)] [zi (xx_clearText μ).1] zSp (cmb (xx_clearText μ).2 ν) _ _ _ from ?_)
  refine Az.blk kd_6_isRead_4 (show zR (xx_clearText μ).1 ∧ (((xx_clearText μ).1 < 0 → Ez md_6_isRead 0 0 18 [(0, zr 0), (1, zr 113), (2, zi x), (3, zi y)] [] zSp (cmb (xx_clearText μ).2 ν) _ _ _) ∧ (¬ (xx_clearText μ).1 < 0 → Ez md_6_isRead 0 0 7 [(0, zr 0), (1, zr 113), (2, zi x), (3, zi y)] [] zSp (cmb (xx_clearText μ).2 ν) _ _ _)) from ⟨(by omega), fun h => absurd h (show ¬ (xx_clearText μ).1 < 0 by omega), fun _ => ?_⟩)
  refine Az.blk kd_6_isRead_7 (show Ez md_6_isRead 0 0 8 [(0, zr 0), (1, zr 113), (2, zi x), (3, zi y)] [zr 113] zSp (cmb (xx_clearText μ).2 ν) _ _ _ from ?_)
  refine Az.pV (mc := md_5_clearText) (n := 0) (As := []) (rest := []) (z := (xx_clearText ν).1) kr_6_isRead_8 zw_176 ok_5_clearText rfl rfl rfl trivial rfl (xz_clearText R.B' R.P') rfl rfl (show Ez md_6_isRead 0 0 11 [(0, zr 0), (1, zr 113), (2, zi x), (3, zi y)] [zi (xx_clearText ν).1] zSp (cmb (xx_clearText μ).2 (xx_clearText ν).2) _ _ _ from ?_)
  refine Az.blk kd_6_isRead_11 (show zR (xx_clearText ν).1 ∧ (((xx_clearText ν).1 < 0 → Ez md_6_isRead 0 0 18 [(0, zr 0), (1, zr 113), (2, zi x), (3, zi y)] [] zSp (cmb (xx_clearText μ).2 (xx_clearText ν).2) _ _ _) ∧ (¬ (xx_clearText ν).1 < 0 → Ez md_6_isRead 0 0 14 [(0, zr 0), (1, zr 113), (2, zi x), (3, zi y)] [] zSp (cmb (xx_clearText μ).2 (xx_clearText ν).2) _ _ _)) from ⟨(by omega), fun h => absurd h (show ¬ (xx_clearText ν).1 < 0 by omega), fun _ => ?_⟩)
  refine Az.blk kd_6_isRead_14 (show Ez md_6_isRead 0 0 19 [(0, zr 0), (1, zr 113), (2, zi x), (3, zi y)] [zi 1] zSp (cmb (xx_clearText μ).2 (xx_clearText ν).2) _ _ _ from ?_)
  refine Az.blk kd_6_isRead_19 (show Ez md_6_isRead 0 0 25 [(4, zi 1), (0, zr 0), (1, zr 113), (2, zi x), (3, zi y)] [zi 9, zi x, zi 1] zSp (cmb (xx_clearText μ).2 (xx_clearText ν).2) _ _ _ from ?_)
  refine Az.cS (mc := md_6_up) (n := 2) (As := [zi x, zi 9]) (rest := [zi 1]) (Sh1 := zSp) (μ1 := cmb (xx_clearText μ).2 (xx_clearText ν).2) (w := some (zi (lup x 9))) kr_6_isRead_25 zw_180 ok_6_up rfl rfl (lz_up x 9 (by omega)) rfl rfl (show Ez md_6_isRead 0 0 28 [(4, zi 1), (0, zr 0), (1, zr 113), (2, zi x), (3, zi y)] [zi (lup x 9), zi 1] zSp (cmb (xx_clearText μ).2 (xx_clearText ν).2) _ _ _ from ?_)
  refine Az.blk kd_6_isRead_28 (show Ez md_6_isRead 0 0 37 [(7, zi 0), (6, zi 0), (5, zi (1 + (lup x 9))), (4, zi 1), (0, zr 0), (1, zr 113), (2, zi x), (3, zi y)] [] zSp (cmb (xx_clearText μ).2 (xx_clearText ν).2) _ _ _ from ?_)
  rw [show (1 + (lup x 9)) = n from hn.symm]
  refine Az.lvs (lv' := [(0, zr 0), (1, zr 113), (2, zi x), (3, zi y), (4, zi 1), (5, zi n), (6, zi 0), (7, zi 0)]) ?_ ?_
  · intro q hq; simp only [List.mem_cons, List.not_mem_nil, or_false] at hq; rcases hq with rfl | rfl | rfl | rfl | rfl | rfl | rfl | rfl <;> rfl
  refine kk ?_
  exact ir_end R1 T1 nr rfl l1 l2 (by omega)
end LAWS
