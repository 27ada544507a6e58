/-- L_law -/
def xo_0 (pc : Nat) : Option (Instr × Nat) := if 421 ≤ pc then none else if pc < 207 then (if pc < 94 then (if pc < 47 then (if pc < 26 then (if pc < 15 then (if pc < 7 then (if pc < 3 then (if pc = 0 then some (.new 17, 3) else none) else (if pc < 4 then (if pc = 3 then some (.dup, 1) else none) else (if pc = 4 then some (.invokespecial 105, 3) else none))) else (if pc < 9 then (if pc < 8 then (if pc = 7 then some (.astore_n 1, 1) else none) else (if pc = 8 then some (.aload_n 1, 1) else none)) else (if pc < 12 then (if pc = 9 then some (.invokestatic 101, 3) else none) else (if pc = 12 then some (.ifCond .eq 17, 3) else none)))) else (if pc < 18 then (if pc < 16 then (if pc = 15 then some (.aload_n 1, 1) else none) else (if pc < 17 then (if pc = 16 then some (.iconst 0, 1) else none) else (if pc = 17 then some (.iconst 0, 1) else none))) else (if pc < 22 then (if pc < 21 then (if pc = 18 then some (.invokevirtual 48, 3) else none) else (if pc = 21 then some (.iconst 1, 1) else none)) else (if pc < 25 then (if pc = 22 then some (.if_icmp .ne 7, 3) else none) else (if pc = 25 then some (.iconst 1, 1) else none))))) else (if pc < 36 then (if pc < 31 then (if pc < 29 then (if pc = 26 then some (.goto 4, 3) else none) else (if pc < 30 then (if pc = 29 then some (.iconst 0, 1) else none) else (if pc = 30 then some (.istore_n 2, 1) else none))) else (if pc < 33 then (if pc < 32 then (if pc = 31 then some (.iconst 0, 1) else none) else (if pc = 32 then some (.istore_n 3, 1) else none)) else (if pc < 34 then (if pc = 33 then some (.iload_n 3, 1) else none) else (if pc = 34 then some (.bipush 6, 2) else none)))) else (if pc < 43 then (if pc < 39 then (if pc = 36 then some (.if_icmp .ge 33, 3) else none) else (if pc < 40 then (if pc = 39 then some (.iload_n 2, 1) else none) else (if pc = 40 then some (.ifCond .eq 21, 3) else none))) else (if pc < 45 then (if pc < 44 then (if pc = 43 then some (.aload_n 1, 1) else none) else (if pc = 44 then some (.iconst 0, 1) else none)) else (if pc < 46 then (if pc = 45 then some (.iload_n 3, 1) else none) else (if pc = 46 then some (.iconst 0, 1) else none)))))) else (if pc < 72 then (if pc < 61 then (if pc < 53 then (if pc < 50 then (if pc = 47 then some (.invokevirtual 44, 3) else none) else (if pc < 52 then (if pc = 50 then some (.bipush 7, 2) else none) else (if pc = 52 then some (.iload_n 3, 1) else none))) else (if pc < 57 then (if pc < 54 then (if pc = 53 then some (.isub, 1) else none) else (if pc = 54 then some (.if_icmp .ne 7, 3) else none)) else (if pc < 58 then (if pc = 57 then some (.iconst 1, 1) else none) else (if pc = 58 then some (.goto 4, 3) else none)))) else (if pc < 66 then (if pc < 62 then (if pc = 61 then some (.iconst 0, 1) else none) else (if pc < 63 then (if pc = 62 then some (.istore_n 2, 1) else none) else (if pc = 63 then some (.iinc 3 1, 3) else none))) else (if pc < 70 then (if pc < 69 then (if pc = 66 then some (.goto (-33), 3) else none) else (if pc = 69 then some (.iconst 0, 1) else none)) else (if pc < 71 then (if pc = 70 then some (.istore_n 3, 1) else none) else (if pc = 71 then some (.iload_n 3, 1) else none))))) else (if pc < 84 then (if pc < 78 then (if pc < 74 then (if pc = 72 then some (.bipush 44, 2) else none) else (if pc < 77 then (if pc = 74 then some (.if_icmp .ge 330, 3) else none) else (if pc = 77 then some (.iload_n 2, 1) else none))) else (if pc < 82 then (if pc < 81 then (if pc = 78 then some (.ifCond .eq 326, 3) else none) else (if pc = 81 then some (.aload_n 0, 1) else none)) else (if pc < 83 then (if pc = 82 then some (.iconst 2, 1) else none) else (if pc = 83 then some (.iload_n 3, 1) else none)))) else (if pc < 90 then (if pc < 85 then (if pc = 84 then some (.imul, 1) else none) else (if pc < 88 then (if pc = 85 then some (.invokestatic 106, 3) else none) else (if pc = 88 then some (.istore 4, 2) else none))) else (if pc < 92 then (if pc < 91 then (if pc = 90 then some (.aload_n 0, 1) else none) else (if pc = 91 then some (.iconst 2, 1) else none)) else (if pc < 93 then (if pc = 92 then some (.iload_n 3, 1) else none) else (if pc = 93 then some (.imul, 1) else none))))))) else (if pc < 148 then (if pc < 121 then (if pc < 107 then (if pc < 99 then (if pc < 95 then (if pc = 94 then some (.iconst 1, 1) else none) else (if pc < 96 then (if pc = 95 then some (.iadd, 1) else none) else (if pc = 96 then some (.invokestatic 106, 3) else none))) else (if pc < 102 then (if pc < 101 then (if pc = 99 then some (.istore 5, 2) else none) else (if pc = 101 then some (.aload_n 1, 1) else none)) else (if pc < 104 then (if pc = 102 then some (.bipush 14, 2) else none) else (if pc = 104 then some (.invokevirtual 60, 3) else none)))) else (if pc < 113 then (if pc < 109 then (if pc = 107 then some (.istore 6, 2) else none) else (if pc < 110 then (if pc = 109 then some (.aload_n 1, 1) else none) else (if pc = 110 then some (.invokestatic 84, 3) else none))) else (if pc < 116 then (if pc < 115 then (if pc = 113 then some (.lstore 7, 2) else none) else (if pc = 115 then some (.iload_n 3, 1) else none)) else (if pc < 118 then (if pc = 116 then some (.bipush 6, 2) else none) else (if pc = 118 then some (.if_icmp .ge 27, 3) else none))))) else (if pc < 133 then (if pc < 126 then (if pc < 122 then (if pc = 121 then some (.aload_n 1, 1) else none) else (if pc < 124 then (if pc = 122 then some (.iload 4, 2) else none) else (if pc = 124 then some (.bipush 9, 2) else none))) else (if pc < 130 then (if pc < 129 then (if pc = 126 then some (.invokestatic 10, 3) else none) else (if pc = 129 then some (.iconst 0, 1) else none)) else (if pc < 131 then (if pc = 130 then some (.iconst 1, 1) else none) else (if pc = 131 then some (.iload 5, 2) else none)))) else (if pc < 139 then (if pc < 135 then (if pc = 133 then some (.bipush 12, 2) else none) else (if pc < 138 then (if pc = 135 then some (.invokestatic 10, 3) else none) else (if pc = 138 then some (.iadd, 1) else none))) else (if pc < 145 then (if pc < 142 then (if pc = 139 then some (.invokevirtual 16, 3) else none) else (if pc = 142 then some (.goto 11, 3) else none)) else (if pc < 146 then (if pc = 145 then some (.aload_n 1, 1) else none) else (if pc = 146 then some (.iload 4, 2) else none)))))) else (if pc < 178 then (if pc < 163 then (if pc < 155 then (if pc < 150 then (if pc = 148 then some (.iload 5, 2) else none) else (if pc < 153 then (if pc = 150 then some (.invokestatic 110, 3) else none) else (if pc = 153 then some (.istore 9, 2) else none))) else (if pc < 160 then (if pc < 157 then (if pc = 155 then some (.iload 9, 2) else none) else (if pc = 157 then some (.ifCond .ge 33, 3) else none)) else (if pc < 161 then (if pc = 160 then some (.aload_n 1, 1) else none) else (if pc = 161 then some (.bipush 14, 2) else none)))) else (if pc < 171 then (if pc < 166 then (if pc = 163 then some (.invokevirtual 60, 3) else none) else (if pc < 168 then (if pc = 166 then some (.iload 6, 2) else none) else (if pc = 168 then some (.if_icmp .ne 17, 3) else none))) else (if pc < 175 then (if pc < 172 then (if pc = 171 then some (.aload_n 1, 1) else none) else (if pc = 172 then some (.invokestatic 84, 3) else none)) else (if pc < 177 then (if pc = 175 then some (.lload 7, 2) else none) else (if pc = 177 then some (.lcmp, 1) else none))))) else (if pc < 191 then (if pc < 185 then (if pc < 181 then (if pc = 178 then some (.ifCond .ne 7, 3) else none) else (if pc < 182 then (if pc = 181 then some (.iconst 1, 1) else none) else (if pc = 182 then some (.goto 4, 3) else none))) else (if pc < 187 then (if pc < 186 then (if pc = 185 then some (.iconst 0, 1) else none) else (if pc = 186 then some (.istore_n 2, 1) else none)) else (if pc < 190 then (if pc = 187 then some (.goto 103, 3) else none) else (if pc = 190 then some (.aload_n 1, 1) else none)))) else (if pc < 200 then (if pc < 196 then (if pc < 193 then (if pc = 191 then some (.bipush 14, 2) else none) else (if pc = 193 then some (.invokevirtual 60, 3) else none)) else (if pc < 198 then (if pc = 196 then some (.iload 6, 2) else none) else (if pc = 198 then some (.bipush 6, 2) else none))) else (if pc < 205 then (if pc < 203 then (if pc = 200 then some (.if_icmp .ge 10, 3) else none) else (if pc = 203 then some (.iload 6, 2) else none)) else (if pc < 206 then (if pc = 205 then some (.iconst 1, 1) else none) else (if pc = 206 then some (.iadd, 1) else none)))))))) else (if pc < 314 then (if pc < 262 then (if pc < 233 then (if pc < 221 then (if pc < 215 then (if pc < 210 then (if pc = 207 then some (.goto 5, 3) else none) else (if pc < 212 then (if pc = 210 then some (.bipush 6, 2) else none) else (if pc = 212 then some (.if_icmp .ne 7, 3) else none))) else (if pc < 219 then (if pc < 216 then (if pc = 215 then some (.iconst 1, 1) else none) else (if pc = 216 then some (.goto 4, 3) else none)) else (if pc < 220 then (if pc = 219 then some (.iconst 0, 1) else none) else (if pc = 220 then some (.istore_n 2, 1) else none)))) else (if pc < 226 then (if pc < 222 then (if pc = 221 then some (.iload_n 2, 1) else none) else (if pc < 225 then (if pc = 222 then some (.ifCond .eq 68, 3) else none) else (if pc = 225 then some (.iload_n 3, 1) else none))) else (if pc < 230 then (if pc < 227 then (if pc = 226 then some (.iconst 5, 1) else none) else (if pc = 227 then some (.if_icmp .le 63, 3) else none)) else (if pc < 232 then (if pc = 230 then some (.iload 5, 2) else none) else (if pc = 232 then some (.iconst 4, 1) else none))))) else (if pc < 247 then (if pc < 238 then (if pc < 234 then (if pc = 233 then some (.ishr, 1) else none) else (if pc < 235 then (if pc = 234 then some (.iconst 4, 1) else none) else (if pc = 235 then some (.invokestatic 10, 3) else none))) else (if pc < 242 then (if pc < 241 then (if pc = 238 then some (.ifCond .ne 52, 3) else none) else (if pc = 241 then some (.aload_n 1, 1) else none)) else (if pc < 245 then (if pc = 242 then some (.invokevirtual 94, 3) else none) else (if pc = 245 then some (.iload 6, 2) else none)))) else (if pc < 254 then (if pc < 249 then (if pc = 247 then some (.bipush 6, 2) else none) else (if pc < 252 then (if pc = 249 then some (.if_icmp .ge 8, 3) else none) else (if pc = 252 then some (.iload 6, 2) else none))) else (if pc < 258 then (if pc < 257 then (if pc = 254 then some (.goto 4, 3) else none) else (if pc = 257 then some (.iconst 5, 1) else none)) else (if pc < 261 then (if pc = 258 then some (.if_icmp .ne 30, 3) else none) else (if pc = 261 then some (.aload_n 1, 1) else none)))))) else (if pc < 290 then (if pc < 276 then (if pc < 268 then (if pc < 265 then (if pc = 262 then some (.invokestatic 84, 3) else none) else (if pc < 267 then (if pc = 265 then some (.lload 7, 2) else none) else (if pc = 267 then some (.lcmp, 1) else none))) else (if pc < 272 then (if pc < 271 then (if pc = 268 then some (.ifCond .ne 20, 3) else none) else (if pc = 271 then some (.aload_n 1, 1) else none)) else (if pc < 274 then (if pc = 272 then some (.iload 4, 2) else none) else (if pc = 274 then some (.iload 5, 2) else none)))) else (if pc < 284 then (if pc < 279 then (if pc = 276 then some (.invokestatic 110, 3) else none) else (if pc < 281 then (if pc = 279 then some (.iload 9, 2) else none) else (if pc = 281 then some (.if_icmp .ne 7, 3) else none))) else (if pc < 288 then (if pc < 285 then (if pc = 284 then some (.iconst 1, 1) else none) else (if pc = 285 then some (.goto 4, 3) else none)) else (if pc < 289 then (if pc = 288 then some (.iconst 0, 1) else none) else (if pc = 289 then some (.istore_n 2, 1) else none))))) else (if pc < 301 then (if pc < 295 then (if pc < 291 then (if pc = 290 then some (.iload_n 2, 1) else none) else (if pc < 294 then (if pc = 291 then some (.ifCond .eq 105, 3) else none) else (if pc = 294 then some (.iload_n 3, 1) else none))) else (if pc < 297 then (if pc < 296 then (if pc = 295 then some (.iconst 2, 1) else none) else (if pc = 296 then some (.irem, 1) else none)) else (if pc < 300 then (if pc = 297 then some (.ifCond .gt 10, 3) else none) else (if pc = 300 then some (.aload_n 1, 1) else none)))) else (if pc < 308 then (if pc < 304 then (if pc = 301 then some (.invokestatic 101, 3) else none) else (if pc < 307 then (if pc = 304 then some (.ifCond .eq 92, 3) else none) else (if pc = 307 then some (.iload_n 3, 1) else none))) else (if pc < 310 then (if pc < 309 then (if pc = 308 then some (.iconst 3, 1) else none) else (if pc = 309 then some (.irem, 1) else none)) else (if pc < 313 then (if pc = 310 then some (.ifCond .gt 19, 3) else none) else (if pc = 313 then some (.aload_n 1, 1) else none))))))) else (if pc < 364 then (if pc < 339 then (if pc < 329 then (if pc < 318 then (if pc < 316 then (if pc = 314 then some (.iload 5, 2) else none) else (if pc < 317 then (if pc = 316 then some (.iconst 3, 1) else none) else (if pc = 317 then some (.ishr, 1) else none))) else (if pc < 323 then (if pc < 320 then (if pc = 318 then some (.bipush 14, 2) else none) else (if pc = 320 then some (.invokestatic 10, 3) else none)) else (if pc < 326 then (if pc = 323 then some (.invokestatic 114, 3) else none) else (if pc = 326 then some (.ifCond .eq 70, 3) else none)))) else (if pc < 332 then (if pc < 330 then (if pc = 329 then some (.iload_n 3, 1) else none) else (if pc < 331 then (if pc = 330 then some (.iconst 4, 1) else none) else (if pc = 331 then some (.irem, 1) else none))) else (if pc < 336 then (if pc < 335 then (if pc = 332 then some (.ifCond .gt 28, 3) else none) else (if pc = 335 then some (.aload_n 1, 1) else none)) else (if pc < 338 then (if pc = 336 then some (.iload 4, 2) else none) else (if pc = 338 then some (.iconst 3, 1) else none))))) else (if pc < 353 then (if pc < 345 then (if pc < 340 then (if pc = 339 then some (.ishr, 1) else none) else (if pc < 342 then (if pc = 340 then some (.bipush 20, 2) else none) else (if pc = 342 then some (.invokestatic 10, 3) else none))) else (if pc < 348 then (if pc < 346 then (if pc = 345 then some (.iconst 1, 1) else none) else (if pc = 346 then some (.iload 5, 2) else none)) else (if pc < 350 then (if pc = 348 then some (.bipush 20, 2) else none) else (if pc = 350 then some (.invokestatic 10, 3) else none)))) else (if pc < 360 then (if pc < 354 then (if pc = 353 then some (.iadd, 1) else none) else (if pc < 357 then (if pc = 354 then some (.invokestatic 117, 3) else none) else (if pc = 357 then some (.ifCond .eq 39, 3) else none))) else (if pc < 362 then (if pc < 361 then (if pc = 360 then some (.iload_n 3, 1) else none) else (if pc = 361 then some (.iconst 3, 1) else none)) else (if pc < 363 then (if pc = 362 then some (.irem, 1) else none) else (if pc = 363 then some (.iconst 1, 1) else none)))))) else (if pc < 392 then (if pc < 377 then (if pc < 370 then (if pc < 367 then (if pc = 364 then some (.if_icmp .gt 28, 3) else none) else (if pc < 368 then (if pc = 367 then some (.aload_n 1, 1) else none) else (if pc = 368 then some (.iload 4, 2) else none))) else (if pc < 373 then (if pc < 372 then (if pc = 370 then some (.bipush 7, 2) else none) else (if pc = 372 then some (.ishr, 1) else none)) else (if pc < 374 then (if pc = 373 then some (.iconst 2, 1) else none) else (if pc = 374 then some (.invokestatic 10, 3) else none)))) else (if pc < 381 then (if pc < 379 then (if pc = 377 then some (.iload 5, 2) else none) else (if pc < 380 then (if pc = 379 then some (.iconst 5, 1) else none) else (if pc = 380 then some (.ishr, 1) else none))) else (if pc < 386 then (if pc < 383 then (if pc = 381 then some (.bipush 12, 2) else none) else (if pc = 383 then some (.invokestatic 10, 3) else none)) else (if pc < 389 then (if pc = 386 then some (.invokestatic 121, 3) else none) else (if pc = 389 then some (.ifCond .eq 7, 3) else none))))) else (if pc < 405 then (if pc < 397 then (if pc < 393 then (if pc = 392 then some (.iconst 1, 1) else none) else (if pc < 396 then (if pc = 393 then some (.goto 4, 3) else none) else (if pc = 396 then some (.iconst 0, 1) else none))) else (if pc < 401 then (if pc < 398 then (if pc = 397 then some (.istore_n 2, 1) else none) else (if pc = 398 then some (.iinc 3 1, 3) else none)) else (if pc < 404 then (if pc = 401 then some (.goto (-330), 3) else none) else (if pc = 404 then some (.iload_n 2, 1) else none)))) else (if pc < 415 then (if pc < 409 then (if pc < 408 then (if pc = 405 then some (.ifCond .eq 14, 3) else none) else (if pc = 408 then some (.aload_n 1, 1) else none)) else (if pc < 412 then (if pc = 409 then some (.invokestatic 101, 3) else none) else (if pc = 412 then some (.ifCond .eq 7, 3) else none))) else (if pc < 419 then (if pc < 416 then (if pc = 415 then some (.iconst 1, 1) else none) else (if pc = 416 then some (.goto 4, 3) else none)) else (if pc < 420 then (if pc = 419 then some (.iconst 0, 1) else none) else (if pc = 420 then some (.ireturn, 1) else none))))))))
set_option maxRecDepth 100000 in
theorem xo_0_c0 : ([0, 3, 4, 7, 8, 9, 12, 15, 16, 17, 18] : List Nat).all (fun pc => match xo_0 pc with | none => true | some r => decide (decode cL_law pc = .ok r)) = true := by decide +kernel
set_option maxRecDepth 100000 in
theorem xo_0_c1 : ([21, 22, 25, 26, 29, 30, 31, 32, 33, 34, 36] : List Nat).all (fun pc => match xo_0 pc with | none => true | some r => decide (decode cL_law pc = .ok r)) = true := by decide +kernel
set_option maxRecDepth 100000 in
theorem xo_0_c2 : ([39, 40, 43, 44, 45, 46, 47, 50, 52, 53, 54] : List Nat).all (fun pc => match xo_0 pc with | none => true | some r => decide (decode cL_law pc = .ok r)) = true := by decide +kernel
set_option maxRecDepth 100000 in
theorem xo_0_c3 : ([57, 58, 61, 62, 63, 66, 69, 70, 71, 72, 74] : List Nat).all (fun pc => match xo_0 pc with | none => true | some r => decide (decode cL_law pc = .ok r)) = true := by decide +kernel
set_option maxRecDepth 100000 in
theorem xo_0_c4 : ([77, 78, 81, 82, 83, 84, 85, 88, 90, 91, 92] : List Nat).all (fun pc => match xo_0 pc with | none => true | some r => decide (decode cL_law pc = .ok r)) = true := by decide +kernel
set_option maxRecDepth 100000 in
theorem xo_0_c5 : ([93, 94, 95, 96, 99, 101, 102, 104, 107, 109, 110] : List Nat).all (fun pc => match xo_0 pc with | none => true | some r => decide (decode cL_law pc = .ok r)) = true := by decide +kernel
set_option maxRecDepth 100000 in
theorem xo_0_c6 : ([113, 115, 116, 118, 121, 122, 124, 126, 129, 130, 131] : List Nat).all (fun pc => match xo_0 pc with | none => true | some r => decide (decode cL_law pc = .ok r)) = true := by decide +kernel
set_option maxRecDepth 100000 in
theorem xo_0_c7 : ([133, 135, 138, 139, 142, 145, 146, 148, 150, 153, 155] : List Nat).all (fun pc => match xo_0 pc with | none => true | some r => decide (decode cL_law pc = .ok r)) = true := by decide +kernel
set_option maxRecDepth 100000 in
theorem xo_0_c8 : ([157, 160, 161, 163, 166, 168, 171, 172, 175, 177, 178] : List Nat).all (fun pc => match xo_0 pc with | none => true | some r => decide (decode cL_law pc = .ok r)) = true := by decide +kernel
set_option maxRecDepth 100000 in
theorem xo_0_c9 : ([181, 182, 185, 186, 187, 190, 191, 193, 196, 198, 200] : List Nat).all (fun pc => match xo_0 pc with | none => true | some r => decide (decode cL_law pc = .ok r)) = true := by decide +kernel
set_option maxRecDepth 100000 in
theorem xo_0_c10 : ([203, 205, 206, 207, 210, 212, 215, 216, 219, 220, 221] : List Nat).all (fun pc => match xo_0 pc with | none => true | some r => decide (decode cL_law pc = .ok r)) = true := by decide +kernel
set_option maxRecDepth 100000 in
theorem xo_0_c11 : ([222, 225, 226, 227, 230, 232, 233, 234, 235, 238, 241] : List Nat).all (fun pc => match xo_0 pc with | none => true | some r => decide (decode cL_law pc = .ok r)) = true := by decide +kernel
set_option maxRecDepth 100000 in
theorem xo_0_c12 : ([242, 245, 247, 249, 252, 254, 257, 258, 261, 262, 265] : List Nat).all (fun pc => match xo_0 pc with | none => true | some r => decide (decode cL_law pc = .ok r)) = true := by decide +kernel
set_option maxRecDepth 100000 in
theorem xo_0_c13 : ([267, 268, 271, 272, 274, 276, 279, 281, 284, 285, 288] : List Nat).all (fun pc => match xo_0 pc with | none => true | some r => decide (decode cL_law pc = .ok r)) = true := by decide +kernel
set_option maxRecDepth 100000 in
theorem xo_0_c14 : ([289, 290, 291, 294, 295, 296, 297, 300, 301, 304, 307] : List Nat).all (fun pc => match xo_0 pc with | none => true | some r => decide (decode cL_law pc = .ok r)) = true := by decide +kernel
set_option maxRecDepth 100000 in
theorem xo_0_c15 : ([308, 309, 310, 313, 314, 316, 317, 318, 320, 323, 326] : List Nat).all (fun pc => match xo_0 pc with | none => true | some r => decide (decode cL_law pc = .ok r)) = true := by decide +kernel
set_option maxRecDepth 100000 in
theorem xo_0_c16 : ([329, 330, 331, 332, 335, 336, 338, 339, 340, 342, 345] : List Nat).all (fun pc => match xo_0 pc with | none => true | some r => decide (decode cL_law pc = .ok r)) = true := by decide +kernel
set_option maxRecDepth 100000 in
theorem xo_0_c17 : ([346, 348, 350, 353, 354, 357, 360, 361, 362, 363, 364] : List Nat).all (fun pc => match xo_0 pc with | none => true | some r => decide (decode cL_law pc = .ok r)) = true := by decide +kernel
set_option maxRecDepth 100000 in
theorem xo_0_c18 : ([367, 368, 370, 372, 373, 374, 377, 379, 380, 381, 383] : List Nat).all (fun pc => match xo_0 pc with | none => true | some r => decide (decode cL_law pc = .ok r)) = true := by decide +kernel
set_option maxRecDepth 100000 in
theorem xo_0_c19 : ([386, 389, 392, 393, 396, 397, 398, 401, 404, 405, 408] : List Nat).all (fun pc => match xo_0 pc with | none => true | some r => decide (decode cL_law pc = .ok r)) = true := by decide +kernel
set_option maxRecDepth 100000 in
theorem xo_0_c20 : ([409, 412, 415, 416, 419, 420] : List Nat).all (fun pc => match xo_0 pc with | none => true | some r => decide (decode cL_law pc = .ok r)) = true := by decide +kernel
set_option maxRecDepth 100000 in
theorem xo_0_no : (List.range 421).all (fun pc => (xo_0 pc).isNone || (([0, 3, 4, 7, 8, 9, 12, 15, 16, 17, 18] : List Nat).contains pc || ([21, 22, 25, 26, 29, 30, 31, 32, 33, 34, 36] : List Nat).contains pc || ([39, 40, 43, 44, 45, 46, 47, 50, 52, 53, 54] : List Nat).contains pc || ([57, 58, 61, 62, 63, 66, 69, 70, 71, 72, 74] : List Nat).contains pc || ([77, 78, 81, 82, 83, 84, 85, 88, 90, 91, 92] : List Nat).contains pc || ([93, 94, 95, 96, 99, 101, 102, 104, 107, 109, 110] : List Nat).contains pc || ([113, 115, 116, 118, 121, 122, 124, 126, 129, 130, 131] : List Nat).contains pc || ([133, 135, 138, 139, 142, 145, 146, 148, 150, 153, 155] : List Nat).contains pc || ([157, 160, 161, 163, 166, 168, 171, 172, 175, 177, 178] : List Nat).contains pc || ([181, 182, 185, 186, 187, 190, 191, 193, 196, 198, 200] : List Nat).contains pc || ([203, 205, 206, 207, 210, 212, 215, 216, 219, 220, 221] : List Nat).contains pc || ([222, 225, 226, 227, 230, 232, 233, 234, 235, 238, 241] : List Nat).contains pc || ([242, 245, 247, 249, 252, 254, 257, 258, 261, 262, 265] : List Nat).contains pc || ([267, 268, 271, 272, 274, 276, 279, 281, 284, 285, 288] : List Nat).contains pc || ([289, 290, 291, 294, 295, 296, 297, 300, 301, 304, 307] : List Nat).contains pc || ([308, 309, 310, 313, 314, 316, 317, 318, 320, 323, 326] : List Nat).contains pc || ([329, 330, 331, 332, 335, 336, 338, 339, 340, 342, 345] : List Nat).contains pc || ([346, 348, 350, 353, 354, 357, 360, 361, 362, 363, 364] : List Nat).contains pc || ([367, 368, 370, 372, 373, 374, 377, 379, 380, 381, 383] : List Nat).contains pc || ([386, 389, 392, 393, 396, 397, 398, 401, 404, 405, 408] : List Nat).contains pc || ([409, 412, 415, 416, 419, 420] : List Nat).contains pc)) = true := by decide +kernel
theorem xo_0_top (pc : Nat) (h : 421 ≤ pc) : xo_0 pc = none := if_pos h
theorem xo_0_ok (pc : Nat) (r : Instr × Nat) (h : xo_0 pc = some r) : decode cL_law pc = .ok r := by
  rcases Nat.lt_or_ge pc 421 with hl | hl
  · have h1 := List.all_eq_true.mp xo_0_no pc (List.mem_range.mpr hl)
    rw [h] at h1
    simp only [Option.isNone_some, Bool.false_or, Bool.or_eq_true, List.contains_iff_mem, or_assoc] at h1
    rcases h1 with h1 | h1 | h1 | h1 | h1 | h1 | h1 | h1 | h1 | h1 | h1 | h1 | h1 | h1 | h1 | h1 | h1 | h1 | h1 | h1 | h1
    · have h2 := List.all_eq_true.mp xo_0_c0 pc h1
      rw [h] at h2
      exact of_decide_eq_true h2
    · have h2 := List.all_eq_true.mp xo_0_c1 pc h1
      rw [h] at h2
      exact of_decide_eq_true h2
    · have h2 := List.all_eq_true.mp xo_0_c2 pc h1
      rw [h] at h2
      exact of_decide_eq_true h2
    · have h2 := List.all_eq_true.mp xo_0_c3 pc h1
      rw [h] at h2
      exact of_decide_eq_true h2
    · have h2 := List.all_eq_true.mp xo_0_c4 pc h1
      rw [h] at h2
      exact of_decide_eq_true h2
    · have h2 := List.all_eq_true.mp xo_0_c5 pc h1
      rw [h] at h2
      exact of_decide_eq_true h2
    · have h2 := List.all_eq_true.mp xo_0_c6 pc h1
      rw [h] at h2
      exact of_decide_eq_true h2
    · have h2 := List.all_eq_true.mp xo_0_c7 pc h1
      rw [h] at h2
      exact of_decide_eq_true h2
    · have h2 := List.all_eq_true.mp xo_0_c8 pc h1
      rw [h] at h2
      exact of_decide_eq_true h2
    · have h2 := List.all_eq_true.mp xo_0_c9 pc h1
      rw [h] at h2
      exact of_decide_eq_true h2
    · have h2 := List.all_eq_true.mp xo_0_c10 pc h1
      rw [h] at h2
      exact of_decide_eq_true h2
    · have h2 := List.all_eq_true.mp xo_0_c11 pc h1
      rw [h] at h2
      exact of_decide_eq_true h2
    · have h2 := List.all_eq_true.mp xo_0_c12 pc h1
      rw [h] at h2
      exact of_decide_eq_true h2
    · have h2 := List.all_eq_true.mp xo_0_c13 pc h1
      rw [h] at h2
      exact of_decide_eq_true h2
    · have h2 := List.all_eq_true.mp xo_0_c14 pc h1
      rw [h] at h2
      exact of_decide_eq_true h2
    · have h2 := List.all_eq_true.mp xo_0_c15 pc h1
      rw [h] at h2
      exact of_decide_eq_true h2
    · have h2 := List.all_eq_true.mp xo_0_c16 pc h1
      rw [h] at h2
      exact of_decide_eq_true h2
    · have h2 := List.all_eq_true.mp xo_0_c17 pc h1
      rw [h] at h2
      exact of_decide_eq_true h2
    · have h2 := List.all_eq_true.mp xo_0_c18 pc h1
      rw [h] at h2
      exact of_decide_eq_true h2
    · have h2 := List.all_eq_true.mp xo_0_c19 pc h1
      rw [h] at h2
      exact of_decide_eq_true h2
    · have h2 := List.all_eq_true.mp xo_0_c20 pc h1
      rw [h] at h2
      exact of_decide_eq_true h2
  · rw [show xo_0 pc = none from if_pos hl] at h; cases h
/-- X6_noneForEachPerson -/
def xo_1 (pc : Nat) : Option (Instr × Nat) := if 26 ≤ pc then none else if pc < 13 then (if pc < 6 then (if pc < 4 then (if pc < 2 then (if pc = 0 then some (.bipush 20, 2) else none) else (if pc = 2 then some (.newarray .int, 2) else none)) else (if pc < 5 then (if pc = 4 then some (.astore_n 0, 1) else none) else (if pc = 5 then some (.iconst 0, 1) else none))) else (if pc < 8 then (if pc < 7 then (if pc = 6 then some (.istore_n 1, 1) else none) else (if pc = 7 then some (.iload_n 1, 1) else none)) else (if pc < 10 then (if pc = 8 then some (.bipush 20, 2) else none) else (if pc = 10 then some (.if_icmp .ge 14, 3) else none)))) else (if pc < 18 then (if pc < 15 then (if pc < 14 then (if pc = 13 then some (.aload_n 0, 1) else none) else (if pc = 14 then some (.iload_n 1, 1) else none)) else (if pc < 17 then (if pc = 15 then some (.bipush (-6), 2) else none) else (if pc = 17 then some (.iastore, 1) else none))) else (if pc < 24 then (if pc < 21 then (if pc = 18 then some (.iinc 1 1, 3) else none) else (if pc = 21 then some (.goto (-14), 3) else none)) else (if pc < 25 then (if pc = 24 then some (.aload_n 0, 1) else none) else (if pc = 25 then some (.areturn, 1) else none))))
set_option maxRecDepth 100000 in
theorem xo_1_c0 : ([0, 2, 4, 5, 6, 7, 8, 10, 13, 14, 15, 17, 18, 21, 24, 25] : List Nat).all (fun pc => match xo_1 pc with | none => true | some r => decide (decode cX6_noneForEachPerson pc = .ok r)) = true := by decide +kernel
set_option maxRecDepth 100000 in
theorem xo_1_no : (List.range 26).all (fun pc => (xo_1 pc).isNone || (([0, 2, 4, 5, 6, 7, 8, 10, 13, 14, 15, 17, 18, 21, 24, 25] : List Nat).contains pc)) = true := by decide +kernel
theorem xo_1_top (pc : Nat) (h : 26 ≤ pc) : xo_1 pc = none := if_pos h
theorem xo_1_ok (pc : Nat) (r : Instr × Nat) (h : xo_1 pc = some r) : decode cX6_noneForEachPerson pc = .ok r := by
  rcases Nat.lt_or_ge pc 26 with hl | hl
  · have h1 := List.all_eq_true.mp xo_1_no pc (List.mem_range.mpr hl)
    rw [h] at h1
    simp only [Option.isNone_some, Bool.false_or, Bool.or_eq_true, List.contains_iff_mem, or_assoc] at h1
    rcases h1 with h1
    · have h2 := List.all_eq_true.mp xo_1_c0 pc h1
      rw [h] at h2
      exact of_decide_eq_true h2
  · rw [show xo_1 pc = none from if_pos hl] at h; cases h
/-- X0_init -/
def xo_2 (pc : Nat) : Option (Instr × Nat) := if 48 ≤ pc then none else if pc < 25 then (if pc < 11 then (if pc < 4 then (if pc < 1 then (if pc = 0 then some (.aload_n 0, 1) else none) else (if pc = 1 then some (.invokespecial 3, 3) else none)) else (if pc < 5 then (if pc = 4 then some (.aload_n 0, 1) else none) else (if pc < 8 then (if pc = 5 then some (.invokestatic 9, 3) else none) else (if pc = 8 then some (.putfield 13, 3) else none)))) else (if pc < 18 then (if pc < 12 then (if pc = 11 then some (.aload_n 0, 1) else none) else (if pc < 15 then (if pc = 12 then some (.invokestatic 9, 3) else none) else (if pc = 15 then some (.putfield 19, 3) else none))) else (if pc < 19 then (if pc = 18 then some (.aload_n 0, 1) else none) else (if pc < 22 then (if pc = 19 then some (.invokestatic 9, 3) else none) else (if pc = 22 then some (.putfield 22, 3) else none))))) else (if pc < 36 then (if pc < 29 then (if pc < 26 then (if pc = 25 then some (.aload_n 0, 1) else none) else (if pc = 26 then some (.invokestatic 9, 3) else none)) else (if pc < 32 then (if pc = 29 then some (.putfield 25, 3) else none) else (if pc < 33 then (if pc = 32 then some (.aload_n 0, 1) else none) else (if pc = 33 then some (.invokestatic 9, 3) else none)))) else (if pc < 42 then (if pc < 39 then (if pc = 36 then some (.putfield 28, 3) else none) else (if pc < 40 then (if pc = 39 then some (.aload_n 0, 1) else none) else (if pc = 40 then some (.bipush 20, 2) else none))) else (if pc < 44 then (if pc = 42 then some (.newarray .int, 2) else none) else (if pc < 47 then (if pc = 44 then some (.putfield 31, 3) else none) else (if pc = 47 then some (.return_, 1) else none)))))
set_option maxRecDepth 100000 in
theorem xo_2_c0 : ([0, 1, 4, 5, 8, 11, 12, 15, 18, 19, 22, 25, 26, 29, 32, 33, 36, 39, 40, 42, 44, 47] : List Nat).all (fun pc => match xo_2 pc with | none => true | some r => decide (decode cX0_init pc = .ok r)) = true := by decide +kernel
set_option maxRecDepth 100000 in
theorem xo_2_no : (List.range 48).all (fun pc => (xo_2 pc).isNone || (([0, 1, 4, 5, 8, 11, 12, 15, 18, 19, 22, 25, 26, 29, 32, 33, 36, 39, 40, 42, 44, 47] : List Nat).contains pc)) = true := by decide +kernel
theorem xo_2_top (pc : Nat) (h : 48 ≤ pc) : xo_2 pc = none := if_pos h
theorem xo_2_ok (pc : Nat) (r : Instr × Nat) (h : xo_2 pc = some r) : decode cX0_init pc = .ok r := by
  rcases Nat.lt_or_ge pc 48 with hl | hl
  · have h1 := List.all_eq_true.mp xo_2_no pc (List.mem_range.mpr hl)
    rw [h] at h1
    simp only [Option.isNone_some, Bool.false_or, Bool.or_eq_true, List.contains_iff_mem, or_assoc] at h1
    rcases h1 with h1
    · have h2 := List.all_eq_true.mp xo_2_c0 pc h1
      rw [h] at h2
      exact of_decide_eq_true h2
  · rw [show xo_2 pc = none from if_pos hl] at h; cases h
/-- X0_copyFrom -/
def xo_3 (pc : Nat) : Option (Instr × Nat) := if 99 ≤ pc then none else if pc < 49 then (if pc < 24 then (if pc < 10 then (if pc < 5 then (if pc < 1 then (if pc = 0 then some (.aload_n 1, 1) else none) else (if pc < 4 then (if pc = 1 then some (.getfield 13, 3) else none) else (if pc = 4 then some (.iconst 0, 1) else none))) else (if pc < 6 then (if pc = 5 then some (.aload_n 0, 1) else none) else (if pc < 9 then (if pc = 6 then some (.getfield 13, 3) else none) else (if pc = 9 then some (.iconst 0, 1) else none)))) else (if pc < 16 then (if pc < 12 then (if pc = 10 then some (.bipush 20, 2) else none) else (if pc < 15 then (if pc = 12 then some (.invokestatic 34, 3) else none) else (if pc = 15 then some (.aload_n 1, 1) else none))) else (if pc < 20 then (if pc < 19 then (if pc = 16 then some (.getfield 19, 3) else none) else (if pc = 19 then some (.iconst 0, 1) else none)) else (if pc < 21 then (if pc = 20 then some (.aload_n 0, 1) else none) else (if pc = 21 then some (.getfield 19, 3) else none))))) else (if pc < 35 then (if pc < 30 then (if pc < 25 then (if pc = 24 then some (.iconst 0, 1) else none) else (if pc < 27 then (if pc = 25 then some (.bipush 20, 2) else none) else (if pc = 27 then some (.invokestatic 34, 3) else none))) else (if pc < 31 then (if pc = 30 then some (.aload_n 1, 1) else none) else (if pc < 34 then (if pc = 31 then some (.getfield 22, 3) else none) else (if pc = 34 then some (.iconst 0, 1) else none)))) else (if pc < 40 then (if pc < 36 then (if pc = 35 then some (.aload_n 0, 1) else none) else (if pc < 39 then (if pc = 36 then some (.getfield 22, 3) else none) else (if pc = 39 then some (.iconst 0, 1) else none))) else (if pc < 45 then (if pc < 42 then (if pc = 40 then some (.bipush 20, 2) else none) else (if pc = 42 then some (.invokestatic 34, 3) else none)) else (if pc < 46 then (if pc = 45 then some (.aload_n 1, 1) else none) else (if pc = 46 then some (.getfield 25, 3) else none)))))) else (if pc < 72 then (if pc < 60 then (if pc < 54 then (if pc < 50 then (if pc = 49 then some (.iconst 0, 1) else none) else (if pc < 51 then (if pc = 50 then some (.aload_n 0, 1) else none) else (if pc = 51 then some (.getfield 25, 3) else none))) else (if pc < 55 then (if pc = 54 then some (.iconst 0, 1) else none) else (if pc < 57 then (if pc = 55 then some (.bipush 20, 2) else none) else (if pc = 57 then some (.invokestatic 34, 3) else none)))) else (if pc < 65 then (if pc < 61 then (if pc = 60 then some (.aload_n 1, 1) else none) else (if pc < 64 then (if pc = 61 then some (.getfield 28, 3) else none) else (if pc = 64 then some (.iconst 0, 1) else none))) else (if pc < 69 then (if pc < 66 then (if pc = 65 then some (.aload_n 0, 1) else none) else (if pc = 66 then some (.getfield 28, 3) else none)) else (if pc < 70 then (if pc = 69 then some (.iconst 0, 1) else none) else (if pc = 70 then some (.bipush 20, 2) else none))))) else (if pc < 85 then (if pc < 79 then (if pc < 75 then (if pc = 72 then some (.invokestatic 34, 3) else none) else (if pc < 76 then (if pc = 75 then some (.aload_n 1, 1) else none) else (if pc = 76 then some (.getfield 31, 3) else none))) else (if pc < 81 then (if pc < 80 then (if pc = 79 then some (.iconst 0, 1) else none) else (if pc = 80 then some (.aload_n 0, 1) else none)) else (if pc < 84 then (if pc = 81 then some (.getfield 31, 3) else none) else (if pc = 84 then some (.iconst 0, 1) else none)))) else (if pc < 91 then (if pc < 87 then (if pc = 85 then some (.bipush 20, 2) else none) else (if pc < 90 then (if pc = 87 then some (.invokestatic 34, 3) else none) else (if pc = 90 then some (.aload_n 0, 1) else none))) else (if pc < 95 then (if pc < 92 then (if pc = 91 then some (.aload_n 1, 1) else none) else (if pc = 92 then some (.getfield 40, 3) else none)) else (if pc < 98 then (if pc = 95 then some (.putfield 40, 3) else none) else (if pc = 98 then some (.return_, 1) else none))))))
set_option maxRecDepth 100000 in
theorem xo_3_c0 : ([0, 1, 4, 5, 6, 9, 10, 12, 15, 16, 19, 20, 21, 24, 25, 27, 30, 31, 34, 35, 36, 39, 40, 42, 45, 46, 49, 50, 51, 54, 55, 57, 60, 61, 64, 65, 66, 69, 70, 72, 75, 76, 79, 80, 81, 84, 85, 87, 90, 91] : List Nat).all (fun pc => match xo_3 pc with | none => true | some r => decide (decode cX0_copyFrom pc = .ok r)) = true := by decide +kernel
set_option maxRecDepth 100000 in
theorem xo_3_c1 : ([92, 95, 98] : List Nat).all (fun pc => match xo_3 pc with | none => true | some r => decide (decode cX0_copyFrom pc = .ok r)) = true := by decide +kernel
set_option maxRecDepth 100000 in
theorem xo_3_no : (List.range 99).all (fun pc => (xo_3 pc).isNone || (([0, 1, 4, 5, 6, 9, 10, 12, 15, 16, 19, 20, 21, 24, 25, 27, 30, 31, 34, 35, 36, 39, 40, 42, 45, 46, 49, 50, 51, 54, 55, 57, 60, 61, 64, 65, 66, 69, 70, 72, 75, 76, 79, 80, 81, 84, 85, 87, 90, 91] : List Nat).contains pc || ([92, 95, 98] : List Nat).contains pc)) = true := by decide +kernel
theorem xo_3_top (pc : Nat) (h : 99 ≤ pc) : xo_3 pc = none := if_pos h
theorem xo_3_ok (pc : Nat) (r : Instr × Nat) (h : xo_3 pc = some r) : decode cX0_copyFrom pc = .ok r := by
  rcases Nat.lt_or_ge pc 99 with hl | hl
  · have h1 := List.all_eq_true.mp xo_3_no pc (List.mem_range.mpr hl)
    rw [h] at h1
    simp only [Option.isNone_some, Bool.false_or, Bool.or_eq_true, List.contains_iff_mem, or_assoc] at h1
    rcases h1 with h1 | h1
    · have h2 := List.all_eq_true.mp xo_3_c0 pc h1
      rw [h] at h2
      exact of_decide_eq_true h2
    · have h2 := List.all_eq_true.mp xo_3_c1 pc h1
      rw [h] at h2
      exact of_decide_eq_true h2
  · rw [show xo_3 pc = none from if_pos hl] at h; cases h
/-- X0_isInRack -/
def xo_4 (pc : Nat) : Option (Instr × Nat) := if 17 ≤ pc then none else if pc < 8 then (if pc < 4 then (if pc < 1 then (if pc = 0 then some (.aload_n 0, 1) else none) else (if pc = 1 then some (.getfield 13, 3) else none)) else (if pc < 5 then (if pc = 4 then some (.iload_n 1, 1) else none) else (if pc < 6 then (if pc = 5 then some (.iaload, 1) else none) else (if pc = 6 then some (.bipush (-6), 2) else none)))) else (if pc < 12 then (if pc < 11 then (if pc = 8 then some (.if_icmp .eq 7, 3) else none) else (if pc = 11 then some (.iconst 1, 1) else none)) else (if pc < 15 then (if pc = 12 then some (.goto 4, 3) else none) else (if pc < 16 then (if pc = 15 then some (.iconst 0, 1) else none) else (if pc = 16 then some (.ireturn, 1) else none))))
set_option maxRecDepth 100000 in
theorem xo_4_c0 : ([0, 1, 4, 5, 6, 8, 11, 12, 15, 16] : List Nat).all (fun pc => match xo_4 pc with | none => true | some r => decide (decode cX0_isInRack pc = .ok r)) = true := by decide +kernel
set_option maxRecDepth 100000 in
theorem xo_4_no : (List.range 17).all (fun pc => (xo_4 pc).isNone || (([0, 1, 4, 5, 6, 8, 11, 12, 15, 16] : List Nat).contains pc)) = true := by decide +kernel
theorem xo_4_top (pc : Nat) (h : 17 ≤ pc) : xo_4 pc = none := if_pos h
theorem xo_4_ok (pc : Nat) (r : Instr × Nat) (h : xo_4 pc = some r) : decode cX0_isInRack pc = .ok r := by
  rcases Nat.lt_or_ge pc 17 with hl | hl
  · have h1 := List.all_eq_true.mp xo_4_no pc (List.mem_range.mpr hl)
    rw [h] at h1
    simp only [Option.isNone_some, Bool.false_or, Bool.or_eq_true, List.contains_iff_mem, or_assoc] at h1
    rcases h1 with h1
    · have h2 := List.all_eq_true.mp xo_4_c0 pc h1
      rw [h] at h2
      exact of_decide_eq_true h2
  · rw [show xo_4 pc = none from if_pos hl] at h; cases h
/-- X0_isTagged -/
def xo_5 (pc : Nat) : Option (Instr × Nat) := if 17 ≤ pc then none else if pc < 8 then (if pc < 4 then (if pc < 1 then (if pc = 0 then some (.aload_n 0, 1) else none) else (if pc = 1 then some (.getfield 25, 3) else none)) else (if pc < 5 then (if pc = 4 then some (.iload_n 1, 1) else none) else (if pc < 6 then (if pc = 5 then some (.iaload, 1) else none) else (if pc = 6 then some (.bipush (-6), 2) else none)))) else (if pc < 12 then (if pc < 11 then (if pc = 8 then some (.if_icmp .eq 7, 3) else none) else (if pc = 11 then some (.iconst 1, 1) else none)) else (if pc < 15 then (if pc = 12 then some (.goto 4, 3) else none) else (if pc < 16 then (if pc = 15 then some (.iconst 0, 1) else none) else (if pc = 16 then some (.ireturn, 1) else none))))
set_option maxRecDepth 100000 in
theorem xo_5_c0 : ([0, 1, 4, 5, 6, 8, 11, 12, 15, 16] : List Nat).all (fun pc => match xo_5 pc with | none => true | some r => decide (decode cX0_isTagged pc = .ok r)) = true := by decide +kernel
set_option maxRecDepth 100000 in
theorem xo_5_no : (List.range 17).all (fun pc => (xo_5 pc).isNone || (([0, 1, 4, 5, 6, 8, 11, 12, 15, 16] : List Nat).contains pc)) = true := by decide +kernel
theorem xo_5_top (pc : Nat) (h : 17 ≤ pc) : xo_5 pc = none := if_pos h
theorem xo_5_ok (pc : Nat) (r : Instr × Nat) (h : xo_5 pc = some r) : decode cX0_isTagged pc = .ok r := by
  rcases Nat.lt_or_ge pc 17 with hl | hl
  · have h1 := List.all_eq_true.mp xo_5_no pc (List.mem_range.mpr hl)
    rw [h] at h1
    simp only [Option.isNone_some, Bool.false_or, Bool.or_eq_true, List.contains_iff_mem, or_assoc] at h1
    rcases h1 with h1
    · have h2 := List.all_eq_true.mp xo_5_c0 pc h1
      rw [h] at h2
      exact of_decide_eq_true h2
  · rw [show xo_5 pc = none from if_pos hl] at h; cases h
/-- X0_isInPound -/
def xo_6 (pc : Nat) : Option (Instr × Nat) := if 17 ≤ pc then none else if pc < 8 then (if pc < 4 then (if pc < 1 then (if pc = 0 then some (.aload_n 0, 1) else none) else (if pc = 1 then some (.getfield 28, 3) else none)) else (if pc < 5 then (if pc = 4 then some (.iload_n 1, 1) else none) else (if pc < 6 then (if pc = 5 then some (.iaload, 1) else none) else (if pc = 6 then some (.bipush (-6), 2) else none)))) else (if pc < 12 then (if pc < 11 then (if pc = 8 then some (.if_icmp .eq 7, 3) else none) else (if pc = 11 then some (.iconst 1, 1) else none)) else (if pc < 15 then (if pc = 12 then some (.goto 4, 3) else none) else (if pc < 16 then (if pc = 15 then some (.iconst 0, 1) else none) else (if pc = 16 then some (.ireturn, 1) else none))))
set_option maxRecDepth 100000 in
theorem xo_6_c0 : ([0, 1, 4, 5, 6, 8, 11, 12, 15, 16] : List Nat).all (fun pc => match xo_6 pc with | none => true | some r => decide (decode cX0_isInPound pc = .ok r)) = true := by decide +kernel
set_option maxRecDepth 100000 in
theorem xo_6_no : (List.range 17).all (fun pc => (xo_6 pc).isNone || (([0, 1, 4, 5, 6, 8, 11, 12, 15, 16] : List Nat).contains pc)) = true := by decide +kernel
theorem xo_6_top (pc : Nat) (h : 17 ≤ pc) : xo_6 pc = none := if_pos h
theorem xo_6_ok (pc : Nat) (r : Instr × Nat) (h : xo_6 pc = some r) : decode cX0_isInPound pc = .ok r := by
  rcases Nat.lt_or_ge pc 17 with hl | hl
  · have h1 := List.all_eq_true.mp xo_6_no pc (List.mem_range.mpr hl)
    rw [h] at h1
    simp only [Option.isNone_some, Bool.false_or, Bool.or_eq_true, List.contains_iff_mem, or_assoc] at h1
    rcases h1 with h1
    · have h2 := List.all_eq_true.mp xo_6_c0 pc h1
      rw [h] at h2
      exact of_decide_eq_true h2
  · rw [show xo_6 pc = none from if_pos hl] at h; cases h
/-- X0_placeInRack -/
def xo_7 (pc : Nat) : Option (Instr × Nat) := if 23 ≤ pc then none else if pc < 12 then (if pc < 6 then (if pc < 4 then (if pc < 1 then (if pc = 0 then some (.aload_n 0, 1) else none) else (if pc = 1 then some (.getfield 13, 3) else none)) else (if pc < 5 then (if pc = 4 then some (.iload_n 1, 1) else none) else (if pc = 5 then some (.iload_n 2, 1) else none))) else (if pc < 8 then (if pc < 7 then (if pc = 6 then some (.iastore, 1) else none) else (if pc = 7 then some (.aload_n 0, 1) else none)) else (if pc < 11 then (if pc = 8 then some (.getfield 19, 3) else none) else (if pc = 11 then some (.iload_n 1, 1) else none)))) else (if pc < 18 then (if pc < 14 then (if pc < 13 then (if pc = 12 then some (.iload_n 3, 1) else none) else (if pc = 13 then some (.iastore, 1) else none)) else (if pc < 15 then (if pc = 14 then some (.aload_n 0, 1) else none) else (if pc = 15 then some (.getfield 22, 3) else none))) else (if pc < 21 then (if pc < 19 then (if pc = 18 then some (.iload_n 1, 1) else none) else (if pc = 19 then some (.iload 4, 2) else none)) else (if pc < 22 then (if pc = 21 then some (.iastore, 1) else none) else (if pc = 22 then some (.return_, 1) else none))))
set_option maxRecDepth 100000 in
theorem xo_7_c0 : ([0, 1, 4, 5, 6, 7, 8, 11, 12, 13, 14, 15, 18, 19, 21, 22] : List Nat).all (fun pc => match xo_7 pc with | none => true | some r => decide (decode cX0_placeInRack pc = .ok r)) = true := by decide +kernel
set_option maxRecDepth 100000 in
theorem xo_7_no : (List.range 23).all (fun pc => (xo_7 pc).isNone || (([0, 1, 4, 5, 6, 7, 8, 11, 12, 13, 14, 15, 18, 19, 21, 22] : List Nat).contains pc)) = true := by decide +kernel
theorem xo_7_top (pc : Nat) (h : 23 ≤ pc) : xo_7 pc = none := if_pos h
theorem xo_7_ok (pc : Nat) (r : Instr × Nat) (h : xo_7 pc = some r) : decode cX0_placeInRack pc = .ok r := by
  rcases Nat.lt_or_ge pc 23 with hl | hl
  · have h1 := List.all_eq_true.mp xo_7_no pc (List.mem_range.mpr hl)
    rw [h] at h1
    simp only [Option.isNone_some, Bool.false_or, Bool.or_eq_true, List.contains_iff_mem, or_assoc] at h1
    rcases h1 with h1
    · have h2 := List.all_eq_true.mp xo_7_c0 pc h1
      rw [h] at h2
      exact of_decide_eq_true h2
  · rw [show xo_7 pc = none from if_pos hl] at h; cases h
/-- X0_leaveRack -/
def xo_8 (pc : Nat) : Option (Instr × Nat) := if 33 ≤ pc then none else if pc < 16 then (if pc < 8 then (if pc < 4 then (if pc < 1 then (if pc = 0 then some (.aload_n 0, 1) else none) else (if pc = 1 then some (.getfield 13, 3) else none)) else (if pc < 5 then (if pc = 4 then some (.iload_n 1, 1) else none) else (if pc < 7 then (if pc = 5 then some (.bipush (-6), 2) else none) else (if pc = 7 then some (.iastore, 1) else none)))) else (if pc < 12 then (if pc < 9 then (if pc = 8 then some (.aload_n 0, 1) else none) else (if pc = 9 then some (.getfield 19, 3) else none)) else (if pc < 13 then (if pc = 12 then some (.iload_n 1, 1) else none) else (if pc < 15 then (if pc = 13 then some (.bipush (-6), 2) else none) else (if pc = 15 then some (.iastore, 1) else none))))) else (if pc < 24 then (if pc < 20 then (if pc < 17 then (if pc = 16 then some (.aload_n 0, 1) else none) else (if pc = 17 then some (.getfield 22, 3) else none)) else (if pc < 21 then (if pc = 20 then some (.iload_n 1, 1) else none) else (if pc < 23 then (if pc = 21 then some (.bipush (-6), 2) else none) else (if pc = 23 then some (.iastore, 1) else none)))) else (if pc < 29 then (if pc < 25 then (if pc = 24 then some (.aload_n 0, 1) else none) else (if pc < 28 then (if pc = 25 then some (.getfield 25, 3) else none) else (if pc = 28 then some (.iload_n 1, 1) else none))) else (if pc < 31 then (if pc = 29 then some (.bipush (-6), 2) else none) else (if pc < 32 then (if pc = 31 then some (.iastore, 1) else none) else (if pc = 32 then some (.return_, 1) else none)))))
set_option maxRecDepth 100000 in
theorem xo_8_c0 : ([0, 1, 4, 5, 7, 8, 9, 12, 13, 15, 16, 17, 20, 21, 23, 24, 25, 28, 29, 31, 32] : List Nat).all (fun pc => match xo_8 pc with | none => true | some r => decide (decode cX0_leaveRack pc = .ok r)) = true := by decide +kernel
set_option maxRecDepth 100000 in
theorem xo_8_no : (List.range 33).all (fun pc => (xo_8 pc).isNone || (([0, 1, 4, 5, 7, 8, 9, 12, 13, 15, 16, 17, 20, 21, 23, 24, 25, 28, 29, 31, 32] : List Nat).contains pc)) = true := by decide +kernel
theorem xo_8_top (pc : Nat) (h : 33 ≤ pc) : xo_8 pc = none := if_pos h
theorem xo_8_ok (pc : Nat) (r : Instr × Nat) (h : xo_8 pc = some r) : decode cX0_leaveRack pc = .ok r := by
  rcases Nat.lt_or_ge pc 33 with hl | hl
  · have h1 := List.all_eq_true.mp xo_8_no pc (List.mem_range.mpr hl)
    rw [h] at h1
    simp only [Option.isNone_some, Bool.false_or, Bool.or_eq_true, List.contains_iff_mem, or_assoc] at h1
    rcases h1 with h1
    · have h2 := List.all_eq_true.mp xo_8_c0 pc h1
      rw [h] at h2
      exact of_decide_eq_true h2
  · rw [show xo_8 pc = none from if_pos hl] at h; cases h
/-- X0_isDue -/
def xo_9 (pc : Nat) : Option (Instr × Nat) := if 34 ≤ pc then none else if pc < 18 then (if pc < 7 then (if pc < 4 then (if pc < 1 then (if pc = 0 then some (.aload_n 0, 1) else none) else (if pc = 1 then some (.getfield 13, 3) else none)) else (if pc < 5 then (if pc = 4 then some (.iload_n 1, 1) else none) else (if pc < 6 then (if pc = 5 then some (.iaload, 1) else none) else (if pc = 6 then some (.iload_n 2, 1) else none)))) else (if pc < 11 then (if pc < 10 then (if pc = 7 then some (.if_icmp .ne 25, 3) else none) else (if pc = 10 then some (.aload_n 0, 1) else none)) else (if pc < 12 then (if pc = 11 then some (.iload_n 1, 1) else none) else (if pc < 15 then (if pc = 12 then some (.invokevirtual 44, 3) else none) else (if pc = 15 then some (.ifCond .eq 17, 3) else none))))) else (if pc < 25 then (if pc < 22 then (if pc < 19 then (if pc = 18 then some (.aload_n 0, 1) else none) else (if pc = 19 then some (.getfield 25, 3) else none)) else (if pc < 23 then (if pc = 22 then some (.iload_n 1, 1) else none) else (if pc < 24 then (if pc = 23 then some (.iaload, 1) else none) else (if pc = 24 then some (.iload_n 3, 1) else none)))) else (if pc < 29 then (if pc < 28 then (if pc = 25 then some (.if_icmp .gt 7, 3) else none) else (if pc = 28 then some (.iconst 1, 1) else none)) else (if pc < 32 then (if pc = 29 then some (.goto 4, 3) else none) else (if pc < 33 then (if pc = 32 then some (.iconst 0, 1) else none) else (if pc = 33 then some (.ireturn, 1) else none)))))
set_option maxRecDepth 100000 in
theorem xo_9_c0 : ([0, 1, 4, 5, 6, 7, 10, 11, 12, 15, 18, 19, 22, 23, 24, 25, 28, 29, 32, 33] : List Nat).all (fun pc => match xo_9 pc with | none => true | some r => decide (decode cX0_isDue pc = .ok r)) = true := by decide +kernel
set_option maxRecDepth 100000 in
theorem xo_9_no : (List.range 34).all (fun pc => (xo_9 pc).isNone || (([0, 1, 4, 5, 6, 7, 10, 11, 12, 15, 18, 19, 22, 23, 24, 25, 28, 29, 32, 33] : List Nat).contains pc)) = true := by decide +kernel
theorem xo_9_top (pc : Nat) (h : 34 ≤ pc) : xo_9 pc = none := if_pos h
theorem xo_9_ok (pc : Nat) (r : Instr × Nat) (h : xo_9 pc = some r) : decode cX0_isDue pc = .ok r := by
  rcases Nat.lt_or_ge pc 34 with hl | hl
  · have h1 := List.all_eq_true.mp xo_9_no pc (List.mem_range.mpr hl)
    rw [h] at h1
    simp only [Option.isNone_some, Bool.false_or, Bool.or_eq_true, List.contains_iff_mem, or_assoc] at h1
    rcases h1 with h1
    · have h2 := List.all_eq_true.mp xo_9_c0 pc h1
      rw [h] at h2
      exact of_decide_eq_true h2
  · rw [show xo_9 pc = none from if_pos hl] at h; cases h
/-- X0_countTagged -/
def xo_10 (pc : Nat) : Option (Instr × Nat) := if 34 ≤ pc then none else if pc < 15 then (if pc < 5 then (if pc < 2 then (if pc < 1 then (if pc = 0 then some (.iconst 0, 1) else none) else (if pc = 1 then some (.istore_n 3, 1) else none)) else (if pc < 3 then (if pc = 2 then some (.iconst 0, 1) else none) else (if pc = 3 then some (.istore 4, 2) else none))) else (if pc < 9 then (if pc < 7 then (if pc = 5 then some (.iload 4, 2) else none) else (if pc = 7 then some (.bipush 20, 2) else none)) else (if pc < 12 then (if pc = 9 then some (.if_icmp .ge 23, 3) else none) else (if pc < 13 then (if pc = 12 then some (.aload_n 0, 1) else none) else (if pc = 13 then some (.iload 4, 2) else none))))) else (if pc < 23 then (if pc < 17 then (if pc < 16 then (if pc = 15 then some (.iload_n 1, 1) else none) else (if pc = 16 then some (.iload_n 2, 1) else none)) else (if pc < 20 then (if pc = 17 then some (.invokevirtual 48, 3) else none) else (if pc = 20 then some (.ifCond .eq 6, 3) else none))) else (if pc < 29 then (if pc < 26 then (if pc = 23 then some (.iinc 3 1, 3) else none) else (if pc = 26 then some (.iinc 4 1, 3) else none)) else (if pc < 32 then (if pc = 29 then some (.goto (-24), 3) else none) else (if pc < 33 then (if pc = 32 then some (.iload_n 3, 1) else none) else (if pc = 33 then some (.ireturn, 1) else none)))))
set_option maxRecDepth 100000 in
theorem xo_10_c0 : ([0, 1, 2, 3, 5, 7, 9, 12, 13, 15, 16, 17, 20, 23, 26, 29, 32, 33] : List Nat).all (fun pc => match xo_10 pc with | none => true | some r => decide (decode cX0_countTagged pc = .ok r)) = true := by decide +kernel
set_option maxRecDepth 100000 in
theorem xo_10_no : (List.range 34).all (fun pc => (xo_10 pc).isNone || (([0, 1, 2, 3, 5, 7, 9, 12, 13, 15, 16, 17, 20, 23, 26, 29, 32, 33] : List Nat).contains pc)) = true := by decide +kernel
theorem xo_10_top (pc : Nat) (h : 34 ≤ pc) : xo_10 pc = none := if_pos h
theorem xo_10_ok (pc : Nat) (r : Instr × Nat) (h : xo_10 pc = some r) : decode cX0_countTagged pc = .ok r := by
  rcases Nat.lt_or_ge pc 34 with hl | hl
  · have h1 := List.all_eq_true.mp xo_10_no pc (List.mem_range.mpr hl)
    rw [h] at h1
    simp only [Option.isNone_some, Bool.false_or, Bool.or_eq_true, List.contains_iff_mem, or_assoc] at h1
    rcases h1 with h1
    · have h2 := List.all_eq_true.mp xo_10_c0 pc h1
      rw [h] at h2
      exact of_decide_eq_true h2
  · rw [show xo_10 pc = none from if_pos hl] at h; cases h
/-- X0_takeTagged -/
def xo_11 (pc : Nat) : Option (Instr × Nat) := if 61 ≤ pc then none else if pc < 30 then (if pc < 14 then (if pc < 6 then (if pc < 3 then (if pc < 1 then (if pc = 0 then some (.iconst 0, 1) else none) else (if pc = 1 then some (.istore 4, 2) else none)) else (if pc < 4 then (if pc = 3 then some (.iconst 0, 1) else none) else (if pc = 4 then some (.istore 5, 2) else none))) else (if pc < 10 then (if pc < 8 then (if pc = 6 then some (.iload 5, 2) else none) else (if pc = 8 then some (.bipush 20, 2) else none)) else (if pc < 13 then (if pc = 10 then some (.if_icmp .ge 37, 3) else none) else (if pc = 13 then some (.aload_n 0, 1) else none)))) else (if pc < 21 then (if pc < 17 then (if pc < 16 then (if pc = 14 then some (.iload 5, 2) else none) else (if pc = 16 then some (.iload_n 1, 1) else none)) else (if pc < 18 then (if pc = 17 then some (.iload_n 2, 1) else none) else (if pc = 18 then some (.invokevirtual 48, 3) else none))) else (if pc < 25 then (if pc < 24 then (if pc = 21 then some (.ifCond .eq 20, 3) else none) else (if pc = 24 then some (.aload_n 0, 1) else none)) else (if pc < 27 then (if pc = 25 then some (.iload 5, 2) else none) else (if pc = 27 then some (.invokevirtual 52, 3) else none))))) else (if pc < 47 then (if pc < 37 then (if pc < 34 then (if pc < 31 then (if pc = 30 then some (.aload_n 0, 1) else none) else (if pc = 31 then some (.getfield 28, 3) else none)) else (if pc < 36 then (if pc = 34 then some (.iload 5, 2) else none) else (if pc = 36 then some (.iload_n 3, 1) else none))) else (if pc < 41 then (if pc < 38 then (if pc = 37 then some (.iastore, 1) else none) else (if pc = 38 then some (.iinc 4 1, 3) else none)) else (if pc < 44 then (if pc = 41 then some (.iinc 5 1, 3) else none) else (if pc = 44 then some (.goto (-38), 3) else none)))) else (if pc < 54 then (if pc < 49 then (if pc < 48 then (if pc = 47 then some (.aload_n 0, 1) else none) else (if pc = 48 then some (.dup, 1) else none)) else (if pc < 52 then (if pc = 49 then some (.getfield 40, 3) else none) else (if pc = 52 then some (.iload 4, 2) else none))) else (if pc < 58 then (if pc < 55 then (if pc = 54 then some (.iadd, 1) else none) else (if pc = 55 then some (.putfield 40, 3) else none)) else (if pc < 60 then (if pc = 58 then some (.iload 4, 2) else none) else (if pc = 60 then some (.ireturn, 1) else none)))))
set_option maxRecDepth 100000 in
theorem xo_11_c0 : ([0, 1, 3, 4, 6, 8, 10, 13, 14, 16, 17, 18, 21, 24, 25, 27, 30, 31, 34, 36, 37, 38, 41, 44, 47, 48, 49, 52, 54, 55, 58, 60] : List Nat).all (fun pc => match xo_11 pc with | none => true | some r => decide (decode cX0_takeTagged pc = .ok r)) = true := by decide +kernel
set_option maxRecDepth 100000 in
theorem xo_11_no : (List.range 61).all (fun pc => (xo_11 pc).isNone || (([0, 1, 3, 4, 6, 8, 10, 13, 14, 16, 17, 18, 21, 24, 25, 27, 30, 31, 34, 36, 37, 38, 41, 44, 47, 48, 49, 52, 54, 55, 58, 60] : List Nat).contains pc)) = true := by decide +kernel
theorem xo_11_top (pc : Nat) (h : 61 ≤ pc) : xo_11 pc = none := if_pos h
theorem xo_11_ok (pc : Nat) (r : Instr × Nat) (h : xo_11 pc = some r) : decode cX0_takeTagged pc = .ok r := by
  rcases Nat.lt_or_ge pc 61 with hl | hl
  · have h1 := List.all_eq_true.mp xo_11_no pc (List.mem_range.mpr hl)
    rw [h] at h1
    simp only [Option.isNone_some, Bool.false_or, Bool.or_eq_true, List.contains_iff_mem, or_assoc] at h1
    rcases h1 with h1
    · have h2 := List.all_eq_true.mp xo_11_c0 pc h1
      rw [h] at h2
      exact of_decide_eq_true h2
  · rw [show xo_11 pc = none from if_pos hl] at h; cases h
/-- X0_sellFromPound -/
def xo_12 (pc : Nat) : Option (Instr × Nat) := if 51 ≤ pc then none else if pc < 26 then (if pc < 10 then (if pc < 3 then (if pc < 1 then (if pc = 0 then some (.iconst 0, 1) else none) else (if pc < 2 then (if pc = 1 then some (.istore_n 2, 1) else none) else (if pc = 2 then some (.iload_n 2, 1) else none))) else (if pc < 8 then (if pc < 5 then (if pc = 3 then some (.bipush 20, 2) else none) else (if pc = 5 then some (.if_icmp .ge 45, 3) else none)) else (if pc < 9 then (if pc = 8 then some (.aload_n 0, 1) else none) else (if pc = 9 then some (.iload_n 2, 1) else none)))) else (if pc < 20 then (if pc < 16 then (if pc < 13 then (if pc = 10 then some (.invokevirtual 56, 3) else none) else (if pc = 13 then some (.ifCond .eq 31, 3) else none)) else (if pc < 17 then (if pc = 16 then some (.aload_n 0, 1) else none) else (if pc = 17 then some (.getfield 28, 3) else none))) else (if pc < 22 then (if pc < 21 then (if pc = 20 then some (.iload_n 2, 1) else none) else (if pc = 21 then some (.iaload, 1) else none)) else (if pc < 23 then (if pc = 22 then some (.iload_n 1, 1) else none) else (if pc = 23 then some (.if_icmp .gt 21, 3) else none))))) else (if pc < 39 then (if pc < 33 then (if pc < 30 then (if pc < 27 then (if pc = 26 then some (.aload_n 0, 1) else none) else (if pc = 27 then some (.getfield 28, 3) else none)) else (if pc < 31 then (if pc = 30 then some (.iload_n 2, 1) else none) else (if pc = 31 then some (.bipush (-6), 2) else none))) else (if pc < 35 then (if pc < 34 then (if pc = 33 then some (.iastore, 1) else none) else (if pc = 34 then some (.aload_n 0, 1) else none)) else (if pc < 38 then (if pc = 35 then some (.getfield 31, 3) else none) else (if pc = 38 then some (.iload_n 2, 1) else none)))) else (if pc < 43 then (if pc < 41 then (if pc < 40 then (if pc = 39 then some (.dup2, 1) else none) else (if pc = 40 then some (.iaload, 1) else none)) else (if pc < 42 then (if pc = 41 then some (.iconst 1, 1) else none) else (if pc = 42 then some (.iadd, 1) else none))) else (if pc < 47 then (if pc < 44 then (if pc = 43 then some (.iastore, 1) else none) else (if pc = 44 then some (.iinc 2 1, 3) else none)) else (if pc < 50 then (if pc = 47 then some (.goto (-45), 3) else none) else (if pc = 50 then some (.return_, 1) else none)))))
set_option maxRecDepth 100000 in
theorem xo_12_c0 : ([0, 1, 2, 3, 5, 8, 9, 10, 13, 16, 17, 20, 21, 22, 23, 26, 27, 30, 31, 33, 34, 35, 38, 39, 40, 41, 42, 43, 44, 47, 50] : List Nat).all (fun pc => match xo_12 pc with | none => true | some r => decide (decode cX0_sellFromPound pc = .ok r)) = true := by decide +kernel
set_option maxRecDepth 100000 in
theorem xo_12_no : (List.range 51).all (fun pc => (xo_12 pc).isNone || (([0, 1, 2, 3, 5, 8, 9, 10, 13, 16, 17, 20, 21, 22, 23, 26, 27, 30, 31, 33, 34, 35, 38, 39, 40, 41, 42, 43, 44, 47, 50] : List Nat).contains pc)) = true := by decide +kernel
theorem xo_12_top (pc : Nat) (h : 51 ≤ pc) : xo_12 pc = none := if_pos h
theorem xo_12_ok (pc : Nat) (r : Instr × Nat) (h : xo_12 pc = some r) : decode cX0_sellFromPound pc = .ok r := by
  rcases Nat.lt_or_ge pc 51 with hl | hl
  · have h1 := List.all_eq_true.mp xo_12_no pc (List.mem_range.mpr hl)
    rw [h] at h1
    simp only [Option.isNone_some, Bool.false_or, Bool.or_eq_true, List.contains_iff_mem, or_assoc] at h1
    rcases h1 with h1
    · have h2 := List.all_eq_true.mp xo_12_c0 pc h1
      rw [h] at h2
      exact of_decide_eq_true h2
  · rw [show xo_12 pc = none from if_pos hl] at h; cases h
/-- X0_racksTaken -/
def xo_13 (pc : Nat) : Option (Instr × Nat) := if 39 ≤ pc then none else if pc < 20 then (if pc < 7 then (if pc < 3 then (if pc < 1 then (if pc = 0 then some (.iconst 0, 1) else none) else (if pc < 2 then (if pc = 1 then some (.istore_n 2, 1) else none) else (if pc = 2 then some (.iconst 0, 1) else none))) else (if pc < 4 then (if pc = 3 then some (.istore_n 3, 1) else none) else (if pc < 5 then (if pc = 4 then some (.iload_n 3, 1) else none) else (if pc = 5 then some (.bipush 20, 2) else none)))) else (if pc < 14 then (if pc < 10 then (if pc = 7 then some (.if_icmp .ge 30, 3) else none) else (if pc < 11 then (if pc = 10 then some (.aload_n 0, 1) else none) else (if pc = 11 then some (.getfield 13, 3) else none))) else (if pc < 16 then (if pc < 15 then (if pc = 14 then some (.iload_n 3, 1) else none) else (if pc = 15 then some (.iaload, 1) else none)) else (if pc < 17 then (if pc = 16 then some (.iload_n 1, 1) else none) else (if pc = 17 then some (.if_icmp .ne 14, 3) else none))))) else (if pc < 28 then (if pc < 23 then (if pc < 21 then (if pc = 20 then some (.iload_n 2, 1) else none) else (if pc < 22 then (if pc = 21 then some (.iconst 1, 1) else none) else (if pc = 22 then some (.aload_n 0, 1) else none))) else (if pc < 26 then (if pc = 23 then some (.getfield 19, 3) else none) else (if pc < 27 then (if pc = 26 then some (.iload_n 3, 1) else none) else (if pc = 27 then some (.iaload, 1) else none)))) else (if pc < 31 then (if pc < 29 then (if pc = 28 then some (.ishl, 1) else none) else (if pc < 30 then (if pc = 29 then some (.ior, 1) else none) else (if pc = 30 then some (.istore_n 2, 1) else none))) else (if pc < 37 then (if pc < 34 then (if pc = 31 then some (.iinc 3 1, 3) else none) else (if pc = 34 then some (.goto (-30), 3) else none)) else (if pc < 38 then (if pc = 37 then some (.iload_n 2, 1) else none) else (if pc = 38 then some (.ireturn, 1) else none)))))
set_option maxRecDepth 100000 in
theorem xo_13_c0 : ([0, 1, 2, 3, 4, 5, 7, 10, 11, 14, 15, 16, 17, 20, 21, 22, 23, 26, 27, 28, 29, 30, 31, 34, 37, 38] : List Nat).all (fun pc => match xo_13 pc with | none => true | some r => decide (decode cX0_racksTaken pc = .ok r)) = true := by decide +kernel
set_option maxRecDepth 100000 in
theorem xo_13_no : (List.range 39).all (fun pc => (xo_13 pc).isNone || (([0, 1, 2, 3, 4, 5, 7, 10, 11, 14, 15, 16, 17, 20, 21, 22, 23, 26, 27, 28, 29, 30, 31, 34, 37, 38] : List Nat).contains pc)) = true := by decide +kernel
theorem xo_13_top (pc : Nat) (h : 39 ≤ pc) : xo_13 pc = none := if_pos h
theorem xo_13_ok (pc : Nat) (r : Instr × Nat) (h : xo_13 pc = some r) : decode cX0_racksTaken pc = .ok r := by
  rcases Nat.lt_or_ge pc 39 with hl | hl
  · have h1 := List.all_eq_true.mp xo_13_no pc (List.mem_range.mpr hl)
    rw [h] at h1
    simp only [Option.isNone_some, Bool.false_or, Bool.or_eq_true, List.contains_iff_mem, or_assoc] at h1
    rcases h1 with h1
    · have h2 := List.all_eq_true.mp xo_13_c0 pc h1
      rw [h] at h2
      exact of_decide_eq_true h2
  · rw [show xo_13 pc = none from if_pos hl] at h; cases h
