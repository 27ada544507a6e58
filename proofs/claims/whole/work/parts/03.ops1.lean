/-- L_law -/
def xo_0 (pc : Nat) : Option (Instr × Nat) := if 867 ≤ pc then none else if pc < 492 then (if pc < 295 then (if pc < 205 then (if pc < 163 then (if pc < 27 then (if pc < 16 then (if pc < 8 then (if pc < 4 then (if pc < 3 then (if pc = 0 then some (.new 7, 3) else none) else (if pc = 3 then some (.dup, 1) else none)) else (if pc < 7 then (if pc = 4 then some (.invokespecial 9, 3) else none) else (if pc = 7 then some (.astore_n 1, 1) else none))) else (if pc < 12 then (if pc < 11 then (if pc = 8 then some (.new 10, 3) else none) else (if pc = 11 then some (.dup, 1) else none)) else (if pc < 15 then (if pc = 12 then some (.invokespecial 12, 3) else none) else (if pc = 15 then some (.astore_n 2, 1) else none)))) else (if pc < 20 then (if pc < 18 then (if pc < 17 then (if pc = 16 then some (.iconst 0, 1) else none) else (if pc = 17 then some (.istore_n 3, 1) else none)) else (if pc < 19 then (if pc = 18 then some (.iload_n 3, 1) else none) else (if pc = 19 then some (.aload_n 0, 1) else none))) else (if pc < 22 then (if pc < 21 then (if pc = 20 then some (.arraylength, 1) else none) else (if pc = 21 then some (.iconst 4, 1) else none)) else (if pc < 23 then (if pc = 22 then some (.isub, 1) else none) else (if pc < 26 then (if pc = 23 then some (.if_icmp .gt 842, 3) else none) else (if pc = 26 then some (.aload_n 0, 1) else none)))))) else (if pc < 152 then (if pc < 32 then (if pc < 29 then (if pc < 28 then (if pc = 27 then some (.iload_n 3, 1) else none) else (if pc = 28 then some (.iaload, 1) else none)) else (if pc < 31 then (if pc = 29 then some (.bipush 31, 2) else none) else (if pc = 31 then some (.iand, 1) else none))) else (if pc < 149 then (if pc < 148 then (if pc = 32 then some (.tableswitch 827 0 24 #[116, 149, 192, 215, 248, 271, 294, 317, 340, 363, 422, 445, 458, 491, 524, 567, 590, 613, 656, 689, 742, 755, 768, 781, 804], 116) else none) else (if pc = 148 then some (.aload_n 1, 1) else none)) else (if pc < 150 then (if pc = 149 then some (.aload_n 0, 1) else none) else (if pc < 151 then (if pc = 150 then some (.iload_n 3, 1) else none) else (if pc = 151 then some (.iconst 1, 1) else none))))) else (if pc < 156 then (if pc < 154 then (if pc < 153 then (if pc = 152 then some (.iadd, 1) else none) else (if pc = 153 then some (.iaload, 1) else none)) else (if pc < 155 then (if pc = 154 then some (.aload_n 0, 1) else none) else (if pc = 155 then some (.iload_n 3, 1) else none))) else (if pc < 158 then (if pc < 157 then (if pc = 156 then some (.iconst 2, 1) else none) else (if pc = 157 then some (.iadd, 1) else none)) else (if pc < 159 then (if pc = 158 then some (.iaload, 1) else none) else (if pc < 162 then (if pc = 159 then some (.invokevirtual 13, 3) else none) else (if pc = 162 then some (.aload_n 2, 1) else none))))))) else (if pc < 185 then (if pc < 172 then (if pc < 167 then (if pc < 165 then (if pc < 164 then (if pc = 163 then some (.aload_n 0, 1) else none) else (if pc = 164 then some (.iload_n 3, 1) else none)) else (if pc < 166 then (if pc = 165 then some (.iconst 1, 1) else none) else (if pc = 166 then some (.iadd, 1) else none))) else (if pc < 169 then (if pc < 168 then (if pc = 167 then some (.iaload, 1) else none) else (if pc = 168 then some (.aload_n 0, 1) else none)) else (if pc < 170 then (if pc = 169 then some (.iload_n 3, 1) else none) else (if pc < 171 then (if pc = 170 then some (.iconst 2, 1) else none) else (if pc = 171 then some (.iadd, 1) else none))))) else (if pc < 180 then (if pc < 176 then (if pc < 173 then (if pc = 172 then some (.iaload, 1) else none) else (if pc = 173 then some (.invokevirtual 17, 3) else none)) else (if pc < 179 then (if pc = 176 then some (.if_icmp .eq 683, 3) else none) else (if pc = 179 then some (.iconst 0, 1) else none))) else (if pc < 182 then (if pc < 181 then (if pc = 180 then some (.ireturn, 1) else none) else (if pc = 181 then some (.aload_n 1, 1) else none)) else (if pc < 183 then (if pc = 182 then some (.aload_n 0, 1) else none) else (if pc < 184 then (if pc = 183 then some (.iload_n 3, 1) else none) else (if pc = 184 then some (.iconst 1, 1) else none)))))) else (if pc < 194 then (if pc < 189 then (if pc < 187 then (if pc < 186 then (if pc = 185 then some (.iadd, 1) else none) else (if pc = 186 then some (.iaload, 1) else none)) else (if pc < 188 then (if pc = 187 then some (.aload_n 0, 1) else none) else (if pc = 188 then some (.iload_n 3, 1) else none))) else (if pc < 191 then (if pc < 190 then (if pc = 189 then some (.iconst 2, 1) else none) else (if pc = 190 then some (.iadd, 1) else none)) else (if pc < 192 then (if pc = 191 then some (.iaload, 1) else none) else (if pc < 193 then (if pc = 192 then some (.aload_n 0, 1) else none) else (if pc = 193 then some (.iload_n 3, 1) else none))))) else (if pc < 200 then (if pc < 196 then (if pc < 195 then (if pc = 194 then some (.iconst 3, 1) else none) else (if pc = 195 then some (.iadd, 1) else none)) else (if pc < 197 then (if pc = 196 then some (.iaload, 1) else none) else (if pc = 197 then some (.invokevirtual 18, 3) else none))) else (if pc < 202 then (if pc < 201 then (if pc = 200 then some (.aload_n 2, 1) else none) else (if pc = 201 then some (.aload_n 0, 1) else none)) else (if pc < 203 then (if pc = 202 then some (.iload_n 3, 1) else none) else (if pc < 204 then (if pc = 203 then some (.iconst 1, 1) else none) else (if pc = 204 then some (.iadd, 1) else none)))))))) else (if pc < 251 then (if pc < 227 then (if pc < 214 then (if pc < 209 then (if pc < 207 then (if pc < 206 then (if pc = 205 then some (.iaload, 1) else none) else (if pc = 206 then some (.aload_n 0, 1) else none)) else (if pc < 208 then (if pc = 207 then some (.iload_n 3, 1) else none) else (if pc = 208 then some (.iconst 2, 1) else none))) else (if pc < 211 then (if pc < 210 then (if pc = 209 then some (.iadd, 1) else none) else (if pc = 210 then some (.iaload, 1) else none)) else (if pc < 212 then (if pc = 211 then some (.aload_n 0, 1) else none) else (if pc < 213 then (if pc = 212 then some (.iload_n 3, 1) else none) else (if pc = 213 then some (.iconst 3, 1) else none))))) else (if pc < 222 then (if pc < 216 then (if pc < 215 then (if pc = 214 then some (.iadd, 1) else none) else (if pc = 215 then some (.iaload, 1) else none)) else (if pc < 219 then (if pc = 216 then some (.invokevirtual 22, 3) else none) else (if pc = 219 then some (.if_icmp .eq 640, 3) else none))) else (if pc < 224 then (if pc < 223 then (if pc = 222 then some (.iconst 0, 1) else none) else (if pc = 223 then some (.ireturn, 1) else none)) else (if pc < 225 then (if pc = 224 then some (.aload_n 1, 1) else none) else (if pc < 226 then (if pc = 225 then some (.aload_n 0, 1) else none) else (if pc = 226 then some (.iload_n 3, 1) else none)))))) else (if pc < 238 then (if pc < 233 then (if pc < 229 then (if pc < 228 then (if pc = 227 then some (.iconst 1, 1) else none) else (if pc = 228 then some (.iadd, 1) else none)) else (if pc < 230 then (if pc = 229 then some (.iaload, 1) else none) else (if pc = 230 then some (.invokevirtual 23, 3) else none))) else (if pc < 235 then (if pc < 234 then (if pc = 233 then some (.aload_n 2, 1) else none) else (if pc = 234 then some (.aload_n 0, 1) else none)) else (if pc < 236 then (if pc = 235 then some (.iload_n 3, 1) else none) else (if pc < 237 then (if pc = 236 then some (.iconst 1, 1) else none) else (if pc = 237 then some (.iadd, 1) else none))))) else (if pc < 246 then (if pc < 242 then (if pc < 239 then (if pc = 238 then some (.iaload, 1) else none) else (if pc = 239 then some (.invokevirtual 27, 3) else none)) else (if pc < 245 then (if pc = 242 then some (.if_icmp .eq 617, 3) else none) else (if pc = 245 then some (.iconst 0, 1) else none))) else (if pc < 248 then (if pc < 247 then (if pc = 246 then some (.ireturn, 1) else none) else (if pc = 247 then some (.aload_n 1, 1) else none)) else (if pc < 249 then (if pc = 248 then some (.aload_n 0, 1) else none) else (if pc < 250 then (if pc = 249 then some (.iload_n 3, 1) else none) else (if pc = 250 then some (.iconst 1, 1) else none))))))) else (if pc < 271 then (if pc < 262 then (if pc < 255 then (if pc < 253 then (if pc < 252 then (if pc = 251 then some (.iadd, 1) else none) else (if pc = 252 then some (.iaload, 1) else none)) else (if pc < 254 then (if pc = 253 then some (.aload_n 0, 1) else none) else (if pc = 254 then some (.iload_n 3, 1) else none))) else (if pc < 257 then (if pc < 256 then (if pc = 255 then some (.iconst 2, 1) else none) else (if pc = 256 then some (.iadd, 1) else none)) else (if pc < 258 then (if pc = 257 then some (.iaload, 1) else none) else (if pc < 261 then (if pc = 258 then some (.invokevirtual 28, 3) else none) else (if pc = 261 then some (.aload_n 2, 1) else none))))) else (if pc < 266 then (if pc < 264 then (if pc < 263 then (if pc = 262 then some (.aload_n 0, 1) else none) else (if pc = 263 then some (.iload_n 3, 1) else none)) else (if pc < 265 then (if pc = 264 then some (.iconst 1, 1) else none) else (if pc = 265 then some (.iadd, 1) else none))) else (if pc < 268 then (if pc < 267 then (if pc = 266 then some (.iaload, 1) else none) else (if pc = 267 then some (.aload_n 0, 1) else none)) else (if pc < 269 then (if pc = 268 then some (.iload_n 3, 1) else none) else (if pc < 270 then (if pc = 269 then some (.iconst 2, 1) else none) else (if pc = 270 then some (.iadd, 1) else none)))))) else (if pc < 284 then (if pc < 279 then (if pc < 275 then (if pc < 272 then (if pc = 271 then some (.iaload, 1) else none) else (if pc = 272 then some (.invokevirtual 31, 3) else none)) else (if pc < 278 then (if pc = 275 then some (.if_icmp .eq 584, 3) else none) else (if pc = 278 then some (.iconst 0, 1) else none))) else (if pc < 281 then (if pc < 280 then (if pc = 279 then some (.ireturn, 1) else none) else (if pc = 280 then some (.aload_n 1, 1) else none)) else (if pc < 282 then (if pc = 281 then some (.aload_n 0, 1) else none) else (if pc < 283 then (if pc = 282 then some (.iload_n 3, 1) else none) else (if pc = 283 then some (.iconst 1, 1) else none))))) else (if pc < 290 then (if pc < 286 then (if pc < 285 then (if pc = 284 then some (.iadd, 1) else none) else (if pc = 285 then some (.iaload, 1) else none)) else (if pc < 289 then (if pc = 286 then some (.invokevirtual 32, 3) else none) else (if pc = 289 then some (.aload_n 2, 1) else none))) else (if pc < 292 then (if pc < 291 then (if pc = 290 then some (.aload_n 0, 1) else none) else (if pc = 291 then some (.iload_n 3, 1) else none)) else (if pc < 293 then (if pc = 292 then some (.iconst 1, 1) else none) else (if pc < 294 then (if pc = 293 then some (.iadd, 1) else none) else (if pc = 294 then some (.iaload, 1) else none))))))))) else (if pc < 394 then (if pc < 344 then (if pc < 318 then (if pc < 307 then (if pc < 303 then (if pc < 301 then (if pc < 298 then (if pc = 295 then some (.invokevirtual 35, 3) else none) else (if pc = 298 then some (.if_icmp .eq 561, 3) else none)) else (if pc < 302 then (if pc = 301 then some (.iconst 0, 1) else none) else (if pc = 302 then some (.ireturn, 1) else none))) else (if pc < 305 then (if pc < 304 then (if pc = 303 then some (.aload_n 1, 1) else none) else (if pc = 304 then some (.aload_n 0, 1) else none)) else (if pc < 306 then (if pc = 305 then some (.iload_n 3, 1) else none) else (if pc = 306 then some (.iconst 1, 1) else none)))) else (if pc < 313 then (if pc < 309 then (if pc < 308 then (if pc = 307 then some (.iadd, 1) else none) else (if pc = 308 then some (.iaload, 1) else none)) else (if pc < 312 then (if pc = 309 then some (.invokevirtual 36, 3) else none) else (if pc = 312 then some (.aload_n 2, 1) else none))) else (if pc < 315 then (if pc < 314 then (if pc = 313 then some (.aload_n 0, 1) else none) else (if pc = 314 then some (.iload_n 3, 1) else none)) else (if pc < 316 then (if pc = 315 then some (.iconst 1, 1) else none) else (if pc < 317 then (if pc = 316 then some (.iadd, 1) else none) else (if pc = 317 then some (.iaload, 1) else none)))))) else (if pc < 331 then (if pc < 326 then (if pc < 324 then (if pc < 321 then (if pc = 318 then some (.invokevirtual 39, 3) else none) else (if pc = 321 then some (.if_icmp .eq 538, 3) else none)) else (if pc < 325 then (if pc = 324 then some (.iconst 0, 1) else none) else (if pc = 325 then some (.ireturn, 1) else none))) else (if pc < 328 then (if pc < 327 then (if pc = 326 then some (.aload_n 1, 1) else none) else (if pc = 327 then some (.aload_n 0, 1) else none)) else (if pc < 329 then (if pc = 328 then some (.iload_n 3, 1) else none) else (if pc < 330 then (if pc = 329 then some (.iconst 1, 1) else none) else (if pc = 330 then some (.iadd, 1) else none))))) else (if pc < 337 then (if pc < 335 then (if pc < 332 then (if pc = 331 then some (.iaload, 1) else none) else (if pc = 332 then some (.invokevirtual 40, 3) else none)) else (if pc < 336 then (if pc = 335 then some (.aload_n 2, 1) else none) else (if pc = 336 then some (.aload_n 0, 1) else none))) else (if pc < 339 then (if pc < 338 then (if pc = 337 then some (.iload_n 3, 1) else none) else (if pc = 338 then some (.iconst 1, 1) else none)) else (if pc < 340 then (if pc = 339 then some (.iadd, 1) else none) else (if pc < 341 then (if pc = 340 then some (.iaload, 1) else none) else (if pc = 341 then some (.invokevirtual 43, 3) else none))))))) else (if pc < 370 then (if pc < 355 then (if pc < 350 then (if pc < 348 then (if pc < 347 then (if pc = 344 then some (.if_icmp .eq 515, 3) else none) else (if pc = 347 then some (.iconst 0, 1) else none)) else (if pc < 349 then (if pc = 348 then some (.ireturn, 1) else none) else (if pc = 349 then some (.aload_n 1, 1) else none))) else (if pc < 352 then (if pc < 351 then (if pc = 350 then some (.aload_n 0, 1) else none) else (if pc = 351 then some (.iload_n 3, 1) else none)) else (if pc < 353 then (if pc = 352 then some (.iconst 1, 1) else none) else (if pc < 354 then (if pc = 353 then some (.iadd, 1) else none) else (if pc = 354 then some (.iaload, 1) else none))))) else (if pc < 361 then (if pc < 359 then (if pc < 358 then (if pc = 355 then some (.invokevirtual 44, 3) else none) else (if pc = 358 then some (.aload_n 2, 1) else none)) else (if pc < 360 then (if pc = 359 then some (.aload_n 0, 1) else none) else (if pc = 360 then some (.iload_n 3, 1) else none))) else (if pc < 363 then (if pc < 362 then (if pc = 361 then some (.iconst 1, 1) else none) else (if pc = 362 then some (.iadd, 1) else none)) else (if pc < 364 then (if pc = 363 then some (.iaload, 1) else none) else (if pc < 367 then (if pc = 364 then some (.invokevirtual 47, 3) else none) else (if pc = 367 then some (.if_icmp .eq 492, 3) else none)))))) else (if pc < 381 then (if pc < 374 then (if pc < 372 then (if pc < 371 then (if pc = 370 then some (.iconst 0, 1) else none) else (if pc = 371 then some (.ireturn, 1) else none)) else (if pc < 373 then (if pc = 372 then some (.aload_n 1, 1) else none) else (if pc = 373 then some (.aload_n 0, 1) else none))) else (if pc < 376 then (if pc < 375 then (if pc = 374 then some (.iload_n 3, 1) else none) else (if pc = 375 then some (.iconst 1, 1) else none)) else (if pc < 377 then (if pc = 376 then some (.iadd, 1) else none) else (if pc < 378 then (if pc = 377 then some (.iaload, 1) else none) else (if pc = 378 then some (.invokevirtual 48, 3) else none))))) else (if pc < 385 then (if pc < 383 then (if pc < 382 then (if pc = 381 then some (.aload_n 2, 1) else none) else (if pc = 382 then some (.aload_n 0, 1) else none)) else (if pc < 384 then (if pc = 383 then some (.iload_n 3, 1) else none) else (if pc = 384 then some (.iconst 1, 1) else none))) else (if pc < 387 then (if pc < 386 then (if pc = 385 then some (.iadd, 1) else none) else (if pc = 386 then some (.iaload, 1) else none)) else (if pc < 390 then (if pc = 387 then some (.invokevirtual 51, 3) else none) else (if pc < 393 then (if pc = 390 then some (.if_icmp .eq 469, 3) else none) else (if pc = 393 then some (.iconst 0, 1) else none)))))))) else (if pc < 436 then (if pc < 414 then (if pc < 403 then (if pc < 398 then (if pc < 396 then (if pc < 395 then (if pc = 394 then some (.ireturn, 1) else none) else (if pc = 395 then some (.aload_n 1, 1) else none)) else (if pc < 397 then (if pc = 396 then some (.aload_n 0, 1) else none) else (if pc = 397 then some (.iload_n 3, 1) else none))) else (if pc < 400 then (if pc < 399 then (if pc = 398 then some (.iconst 1, 1) else none) else (if pc = 399 then some (.iadd, 1) else none)) else (if pc < 401 then (if pc = 400 then some (.iaload, 1) else none) else (if pc < 402 then (if pc = 401 then some (.aload_n 0, 1) else none) else (if pc = 402 then some (.iload_n 3, 1) else none))))) else (if pc < 407 then (if pc < 405 then (if pc < 404 then (if pc = 403 then some (.iconst 2, 1) else none) else (if pc = 404 then some (.iadd, 1) else none)) else (if pc < 406 then (if pc = 405 then some (.iaload, 1) else none) else (if pc = 406 then some (.aload_n 0, 1) else none))) else (if pc < 409 then (if pc < 408 then (if pc = 407 then some (.iload_n 3, 1) else none) else (if pc = 408 then some (.iconst 3, 1) else none)) else (if pc < 410 then (if pc = 409 then some (.iadd, 1) else none) else (if pc < 411 then (if pc = 410 then some (.iaload, 1) else none) else (if pc = 411 then some (.ifCond .eq 7, 3) else none)))))) else (if pc < 427 then (if pc < 422 then (if pc < 418 then (if pc < 415 then (if pc = 414 then some (.iconst 1, 1) else none) else (if pc = 415 then some (.goto 4, 3) else none)) else (if pc < 419 then (if pc = 418 then some (.iconst 0, 1) else none) else (if pc = 419 then some (.invokevirtual 52, 3) else none))) else (if pc < 424 then (if pc < 423 then (if pc = 422 then some (.aload_n 2, 1) else none) else (if pc = 423 then some (.aload_n 0, 1) else none)) else (if pc < 425 then (if pc = 424 then some (.iload_n 3, 1) else none) else (if pc < 426 then (if pc = 425 then some (.iconst 1, 1) else none) else (if pc = 426 then some (.iadd, 1) else none))))) else (if pc < 431 then (if pc < 429 then (if pc < 428 then (if pc = 427 then some (.iaload, 1) else none) else (if pc = 428 then some (.aload_n 0, 1) else none)) else (if pc < 430 then (if pc = 429 then some (.iload_n 3, 1) else none) else (if pc = 430 then some (.iconst 2, 1) else none))) else (if pc < 433 then (if pc < 432 then (if pc = 431 then some (.iadd, 1) else none) else (if pc = 432 then some (.iaload, 1) else none)) else (if pc < 434 then (if pc = 433 then some (.aload_n 0, 1) else none) else (if pc < 435 then (if pc = 434 then some (.iload_n 3, 1) else none) else (if pc = 435 then some (.iconst 3, 1) else none))))))) else (if pc < 464 then (if pc < 453 then (if pc < 442 then (if pc < 438 then (if pc < 437 then (if pc = 436 then some (.iadd, 1) else none) else (if pc = 437 then some (.iaload, 1) else none)) else (if pc < 441 then (if pc = 438 then some (.ifCond .eq 7, 3) else none) else (if pc = 441 then some (.iconst 1, 1) else none))) else (if pc < 446 then (if pc < 445 then (if pc = 442 then some (.goto 4, 3) else none) else (if pc = 445 then some (.iconst 0, 1) else none)) else (if pc < 449 then (if pc = 446 then some (.invokevirtual 56, 3) else none) else (if pc < 452 then (if pc = 449 then some (.if_icmp .eq 410, 3) else none) else (if pc = 452 then some (.iconst 0, 1) else none))))) else (if pc < 457 then (if pc < 455 then (if pc < 454 then (if pc = 453 then some (.ireturn, 1) else none) else (if pc = 454 then some (.aload_n 1, 1) else none)) else (if pc < 456 then (if pc = 455 then some (.aload_n 0, 1) else none) else (if pc = 456 then some (.iload_n 3, 1) else none))) else (if pc < 459 then (if pc < 458 then (if pc = 457 then some (.iconst 1, 1) else none) else (if pc = 458 then some (.iadd, 1) else none)) else (if pc < 460 then (if pc = 459 then some (.iaload, 1) else none) else (if pc < 463 then (if pc = 460 then some (.invokevirtual 57, 3) else none) else (if pc = 463 then some (.aload_n 2, 1) else none)))))) else (if pc < 477 then (if pc < 468 then (if pc < 466 then (if pc < 465 then (if pc = 464 then some (.aload_n 0, 1) else none) else (if pc = 465 then some (.iload_n 3, 1) else none)) else (if pc < 467 then (if pc = 466 then some (.iconst 1, 1) else none) else (if pc = 467 then some (.iadd, 1) else none))) else (if pc < 472 then (if pc < 469 then (if pc = 468 then some (.iaload, 1) else none) else (if pc = 469 then some (.invokevirtual 60, 3) else none)) else (if pc < 475 then (if pc = 472 then some (.if_icmp .eq 387, 3) else none) else (if pc < 476 then (if pc = 475 then some (.iconst 0, 1) else none) else (if pc = 476 then some (.ireturn, 1) else none))))) else (if pc < 485 then (if pc < 481 then (if pc < 478 then (if pc = 477 then some (.aload_n 1, 1) else none) else (if pc = 478 then some (.invokevirtual 61, 3) else none)) else (if pc < 482 then (if pc = 481 then some (.aload_n 2, 1) else none) else (if pc = 482 then some (.invokevirtual 65, 3) else none))) else (if pc < 489 then (if pc < 488 then (if pc = 485 then some (.if_icmp .eq 374, 3) else none) else (if pc = 488 then some (.iconst 0, 1) else none)) else (if pc < 490 then (if pc = 489 then some (.ireturn, 1) else none) else (if pc < 491 then (if pc = 490 then some (.aload_n 1, 1) else none) else (if pc = 491 then some (.aload_n 0, 1) else none)))))))))) else (if pc < 667 then (if pc < 577 then (if pc < 533 then (if pc < 511 then (if pc < 500 then (if pc < 496 then (if pc < 494 then (if pc < 493 then (if pc = 492 then some (.iload_n 3, 1) else none) else (if pc = 493 then some (.iconst 1, 1) else none)) else (if pc < 495 then (if pc = 494 then some (.iadd, 1) else none) else (if pc = 495 then some (.iaload, 1) else none))) else (if pc < 498 then (if pc < 497 then (if pc = 496 then some (.aload_n 0, 1) else none) else (if pc = 497 then some (.iload_n 3, 1) else none)) else (if pc < 499 then (if pc = 498 then some (.iconst 2, 1) else none) else (if pc = 499 then some (.iadd, 1) else none)))) else (if pc < 506 then (if pc < 504 then (if pc < 501 then (if pc = 500 then some (.iaload, 1) else none) else (if pc = 501 then some (.invokevirtual 66, 3) else none)) else (if pc < 505 then (if pc = 504 then some (.aload_n 2, 1) else none) else (if pc = 505 then some (.aload_n 0, 1) else none))) else (if pc < 508 then (if pc < 507 then (if pc = 506 then some (.iload_n 3, 1) else none) else (if pc = 507 then some (.iconst 1, 1) else none)) else (if pc < 509 then (if pc = 508 then some (.iadd, 1) else none) else (if pc < 510 then (if pc = 509 then some (.iaload, 1) else none) else (if pc = 510 then some (.aload_n 0, 1) else none)))))) else (if pc < 524 then (if pc < 515 then (if pc < 513 then (if pc < 512 then (if pc = 511 then some (.iload_n 3, 1) else none) else (if pc = 512 then some (.iconst 2, 1) else none)) else (if pc < 514 then (if pc = 513 then some (.iadd, 1) else none) else (if pc = 514 then some (.iaload, 1) else none))) else (if pc < 521 then (if pc < 518 then (if pc = 515 then some (.invokevirtual 69, 3) else none) else (if pc = 518 then some (.if_icmp .eq 341, 3) else none)) else (if pc < 522 then (if pc = 521 then some (.iconst 0, 1) else none) else (if pc < 523 then (if pc = 522 then some (.ireturn, 1) else none) else (if pc = 523 then some (.aload_n 1, 1) else none))))) else (if pc < 528 then (if pc < 526 then (if pc < 525 then (if pc = 524 then some (.aload_n 0, 1) else none) else (if pc = 525 then some (.iload_n 3, 1) else none)) else (if pc < 527 then (if pc = 526 then some (.iconst 1, 1) else none) else (if pc = 527 then some (.iadd, 1) else none))) else (if pc < 530 then (if pc < 529 then (if pc = 528 then some (.iaload, 1) else none) else (if pc = 529 then some (.aload_n 0, 1) else none)) else (if pc < 531 then (if pc = 530 then some (.iload_n 3, 1) else none) else (if pc < 532 then (if pc = 531 then some (.iconst 2, 1) else none) else (if pc = 532 then some (.iadd, 1) else none))))))) else (if pc < 557 then (if pc < 544 then (if pc < 539 then (if pc < 537 then (if pc < 534 then (if pc = 533 then some (.iaload, 1) else none) else (if pc = 534 then some (.invokevirtual 70, 3) else none)) else (if pc < 538 then (if pc = 537 then some (.aload_n 2, 1) else none) else (if pc = 538 then some (.aload_n 0, 1) else none))) else (if pc < 541 then (if pc < 540 then (if pc = 539 then some (.iload_n 3, 1) else none) else (if pc = 540 then some (.iconst 1, 1) else none)) else (if pc < 542 then (if pc = 541 then some (.iadd, 1) else none) else (if pc < 543 then (if pc = 542 then some (.iaload, 1) else none) else (if pc = 543 then some (.aload_n 0, 1) else none))))) else (if pc < 548 then (if pc < 546 then (if pc < 545 then (if pc = 544 then some (.iload_n 3, 1) else none) else (if pc = 545 then some (.iconst 2, 1) else none)) else (if pc < 547 then (if pc = 546 then some (.iadd, 1) else none) else (if pc = 547 then some (.iaload, 1) else none))) else (if pc < 554 then (if pc < 551 then (if pc = 548 then some (.invokevirtual 73, 3) else none) else (if pc = 551 then some (.if_icmp .eq 308, 3) else none)) else (if pc < 555 then (if pc = 554 then some (.iconst 0, 1) else none) else (if pc < 556 then (if pc = 555 then some (.ireturn, 1) else none) else (if pc = 556 then some (.aload_n 1, 1) else none)))))) else (if pc < 566 then (if pc < 561 then (if pc < 559 then (if pc < 558 then (if pc = 557 then some (.aload_n 0, 1) else none) else (if pc = 558 then some (.iload_n 3, 1) else none)) else (if pc < 560 then (if pc = 559 then some (.iconst 1, 1) else none) else (if pc = 560 then some (.iadd, 1) else none))) else (if pc < 563 then (if pc < 562 then (if pc = 561 then some (.iaload, 1) else none) else (if pc = 562 then some (.aload_n 0, 1) else none)) else (if pc < 564 then (if pc = 563 then some (.iload_n 3, 1) else none) else (if pc < 565 then (if pc = 564 then some (.iconst 2, 1) else none) else (if pc = 565 then some (.iadd, 1) else none))))) else (if pc < 570 then (if pc < 568 then (if pc < 567 then (if pc = 566 then some (.iaload, 1) else none) else (if pc = 567 then some (.aload_n 0, 1) else none)) else (if pc < 569 then (if pc = 568 then some (.iload_n 3, 1) else none) else (if pc = 569 then some (.iconst 3, 1) else none))) else (if pc < 572 then (if pc < 571 then (if pc = 570 then some (.iadd, 1) else none) else (if pc = 571 then some (.iaload, 1) else none)) else (if pc < 575 then (if pc = 572 then some (.invokevirtual 74, 3) else none) else (if pc < 576 then (if pc = 575 then some (.aload_n 2, 1) else none) else (if pc = 576 then some (.aload_n 0, 1) else none)))))))) else (if pc < 623 then (if pc < 599 then (if pc < 586 then (if pc < 581 then (if pc < 579 then (if pc < 578 then (if pc = 577 then some (.iload_n 3, 1) else none) else (if pc = 578 then some (.iconst 1, 1) else none)) else (if pc < 580 then (if pc = 579 then some (.iadd, 1) else none) else (if pc = 580 then some (.iaload, 1) else none))) else (if pc < 583 then (if pc < 582 then (if pc = 581 then some (.aload_n 0, 1) else none) else (if pc = 582 then some (.iload_n 3, 1) else none)) else (if pc < 584 then (if pc = 583 then some (.iconst 2, 1) else none) else (if pc < 585 then (if pc = 584 then some (.iadd, 1) else none) else (if pc = 585 then some (.iaload, 1) else none))))) else (if pc < 590 then (if pc < 588 then (if pc < 587 then (if pc = 586 then some (.aload_n 0, 1) else none) else (if pc = 587 then some (.iload_n 3, 1) else none)) else (if pc < 589 then (if pc = 588 then some (.iconst 3, 1) else none) else (if pc = 589 then some (.iadd, 1) else none))) else (if pc < 594 then (if pc < 591 then (if pc = 590 then some (.iaload, 1) else none) else (if pc = 591 then some (.invokevirtual 77, 3) else none)) else (if pc < 597 then (if pc = 594 then some (.if_icmp .eq 265, 3) else none) else (if pc < 598 then (if pc = 597 then some (.iconst 0, 1) else none) else (if pc = 598 then some (.ireturn, 1) else none)))))) else (if pc < 610 then (if pc < 603 then (if pc < 601 then (if pc < 600 then (if pc = 599 then some (.aload_n 1, 1) else none) else (if pc = 600 then some (.aload_n 0, 1) else none)) else (if pc < 602 then (if pc = 601 then some (.iload_n 3, 1) else none) else (if pc = 602 then some (.iconst 1, 1) else none))) else (if pc < 605 then (if pc < 604 then (if pc = 603 then some (.iadd, 1) else none) else (if pc = 604 then some (.iaload, 1) else none)) else (if pc < 608 then (if pc = 605 then some (.invokevirtual 78, 3) else none) else (if pc < 609 then (if pc = 608 then some (.aload_n 2, 1) else none) else (if pc = 609 then some (.aload_n 0, 1) else none))))) else (if pc < 614 then (if pc < 612 then (if pc < 611 then (if pc = 610 then some (.iload_n 3, 1) else none) else (if pc = 611 then some (.iconst 1, 1) else none)) else (if pc < 613 then (if pc = 612 then some (.iadd, 1) else none) else (if pc = 613 then some (.iaload, 1) else none))) else (if pc < 620 then (if pc < 617 then (if pc = 614 then some (.invokevirtual 81, 3) else none) else (if pc = 617 then some (.if_icmp .eq 242, 3) else none)) else (if pc < 621 then (if pc = 620 then some (.iconst 0, 1) else none) else (if pc < 622 then (if pc = 621 then some (.ireturn, 1) else none) else (if pc = 622 then some (.aload_n 1, 1) else none))))))) else (if pc < 647 then (if pc < 634 then (if pc < 627 then (if pc < 625 then (if pc < 624 then (if pc = 623 then some (.aload_n 0, 1) else none) else (if pc = 624 then some (.iload_n 3, 1) else none)) else (if pc < 626 then (if pc = 625 then some (.iconst 1, 1) else none) else (if pc = 626 then some (.iadd, 1) else none))) else (if pc < 631 then (if pc < 628 then (if pc = 627 then some (.iaload, 1) else none) else (if pc = 628 then some (.invokevirtual 82, 3) else none)) else (if pc < 632 then (if pc = 631 then some (.aload_n 2, 1) else none) else (if pc < 633 then (if pc = 632 then some (.aload_n 0, 1) else none) else (if pc = 633 then some (.iload_n 3, 1) else none))))) else (if pc < 640 then (if pc < 636 then (if pc < 635 then (if pc = 634 then some (.iconst 1, 1) else none) else (if pc = 635 then some (.iadd, 1) else none)) else (if pc < 637 then (if pc = 636 then some (.iaload, 1) else none) else (if pc = 637 then some (.invokevirtual 85, 3) else none))) else (if pc < 644 then (if pc < 643 then (if pc = 640 then some (.if_icmp .eq 219, 3) else none) else (if pc = 643 then some (.iconst 0, 1) else none)) else (if pc < 645 then (if pc = 644 then some (.ireturn, 1) else none) else (if pc < 646 then (if pc = 645 then some (.aload_n 1, 1) else none) else (if pc = 646 then some (.aload_n 0, 1) else none)))))) else (if pc < 656 then (if pc < 651 then (if pc < 649 then (if pc < 648 then (if pc = 647 then some (.iload_n 3, 1) else none) else (if pc = 648 then some (.iconst 1, 1) else none)) else (if pc < 650 then (if pc = 649 then some (.iadd, 1) else none) else (if pc = 650 then some (.iaload, 1) else none))) else (if pc < 653 then (if pc < 652 then (if pc = 651 then some (.aload_n 0, 1) else none) else (if pc = 652 then some (.iload_n 3, 1) else none)) else (if pc < 654 then (if pc = 653 then some (.iconst 2, 1) else none) else (if pc < 655 then (if pc = 654 then some (.iadd, 1) else none) else (if pc = 655 then some (.iaload, 1) else none))))) else (if pc < 660 then (if pc < 658 then (if pc < 657 then (if pc = 656 then some (.aload_n 0, 1) else none) else (if pc = 657 then some (.iload_n 3, 1) else none)) else (if pc < 659 then (if pc = 658 then some (.iconst 3, 1) else none) else (if pc = 659 then some (.iadd, 1) else none))) else (if pc < 664 then (if pc < 661 then (if pc = 660 then some (.iaload, 1) else none) else (if pc = 661 then some (.invokevirtual 86, 3) else none)) else (if pc < 665 then (if pc = 664 then some (.aload_n 2, 1) else none) else (if pc < 666 then (if pc = 665 then some (.aload_n 0, 1) else none) else (if pc = 666 then some (.iload_n 3, 1) else none))))))))) else (if pc < 755 then (if pc < 709 then (if pc < 689 then (if pc < 676 then (if pc < 671 then (if pc < 669 then (if pc < 668 then (if pc = 667 then some (.iconst 1, 1) else none) else (if pc = 668 then some (.iadd, 1) else none)) else (if pc < 670 then (if pc = 669 then some (.iaload, 1) else none) else (if pc = 670 then some (.aload_n 0, 1) else none))) else (if pc < 673 then (if pc < 672 then (if pc = 671 then some (.iload_n 3, 1) else none) else (if pc = 672 then some (.iconst 2, 1) else none)) else (if pc < 674 then (if pc = 673 then some (.iadd, 1) else none) else (if pc < 675 then (if pc = 674 then some (.iaload, 1) else none) else (if pc = 675 then some (.aload_n 0, 1) else none))))) else (if pc < 680 then (if pc < 678 then (if pc < 677 then (if pc = 676 then some (.iload_n 3, 1) else none) else (if pc = 677 then some (.iconst 3, 1) else none)) else (if pc < 679 then (if pc = 678 then some (.iadd, 1) else none) else (if pc = 679 then some (.iaload, 1) else none))) else (if pc < 686 then (if pc < 683 then (if pc = 680 then some (.invokevirtual 89, 3) else none) else (if pc = 683 then some (.if_icmp .eq 176, 3) else none)) else (if pc < 687 then (if pc = 686 then some (.iconst 0, 1) else none) else (if pc < 688 then (if pc = 687 then some (.ireturn, 1) else none) else (if pc = 688 then some (.aload_n 1, 1) else none)))))) else (if pc < 698 then (if pc < 693 then (if pc < 691 then (if pc < 690 then (if pc = 689 then some (.aload_n 0, 1) else none) else (if pc = 690 then some (.iload_n 3, 1) else none)) else (if pc < 692 then (if pc = 691 then some (.iconst 1, 1) else none) else (if pc = 692 then some (.iadd, 1) else none))) else (if pc < 695 then (if pc < 694 then (if pc = 693 then some (.iaload, 1) else none) else (if pc = 694 then some (.aload_n 0, 1) else none)) else (if pc < 696 then (if pc = 695 then some (.iload_n 3, 1) else none) else (if pc < 697 then (if pc = 696 then some (.iconst 2, 1) else none) else (if pc = 697 then some (.iadd, 1) else none))))) else (if pc < 704 then (if pc < 702 then (if pc < 699 then (if pc = 698 then some (.iaload, 1) else none) else (if pc = 699 then some (.invokevirtual 90, 3) else none)) else (if pc < 703 then (if pc = 702 then some (.aload_n 2, 1) else none) else (if pc = 703 then some (.aload_n 0, 1) else none))) else (if pc < 706 then (if pc < 705 then (if pc = 704 then some (.iload_n 3, 1) else none) else (if pc = 705 then some (.iconst 1, 1) else none)) else (if pc < 707 then (if pc = 706 then some (.iadd, 1) else none) else (if pc < 708 then (if pc = 707 then some (.iaload, 1) else none) else (if pc = 708 then some (.aload_n 0, 1) else none))))))) else (if pc < 732 then (if pc < 722 then (if pc < 713 then (if pc < 711 then (if pc < 710 then (if pc = 709 then some (.iload_n 3, 1) else none) else (if pc = 710 then some (.iconst 2, 1) else none)) else (if pc < 712 then (if pc = 711 then some (.iadd, 1) else none) else (if pc = 712 then some (.iaload, 1) else none))) else (if pc < 719 then (if pc < 716 then (if pc = 713 then some (.invokevirtual 93, 3) else none) else (if pc = 716 then some (.if_icmp .eq 143, 3) else none)) else (if pc < 720 then (if pc = 719 then some (.iconst 0, 1) else none) else (if pc < 721 then (if pc = 720 then some (.ireturn, 1) else none) else (if pc = 721 then some (.aload_n 1, 1) else none))))) else (if pc < 726 then (if pc < 724 then (if pc < 723 then (if pc = 722 then some (.aload_n 0, 1) else none) else (if pc = 723 then some (.iload_n 3, 1) else none)) else (if pc < 725 then (if pc = 724 then some (.iconst 1, 1) else none) else (if pc = 725 then some (.iadd, 1) else none))) else (if pc < 728 then (if pc < 727 then (if pc = 726 then some (.iaload, 1) else none) else (if pc = 727 then some (.i2l, 1) else none)) else (if pc < 730 then (if pc = 728 then some (.bipush 32, 2) else none) else (if pc < 731 then (if pc = 730 then some (.lshl, 1) else none) else (if pc = 731 then some (.aload_n 0, 1) else none)))))) else (if pc < 745 then (if pc < 736 then (if pc < 734 then (if pc < 733 then (if pc = 732 then some (.iload_n 3, 1) else none) else (if pc = 733 then some (.iconst 2, 1) else none)) else (if pc < 735 then (if pc = 734 then some (.iadd, 1) else none) else (if pc = 735 then some (.iaload, 1) else none))) else (if pc < 740 then (if pc < 737 then (if pc = 736 then some (.i2l, 1) else none) else (if pc = 737 then some (.ldc2_w 94, 3) else none)) else (if pc < 741 then (if pc = 740 then some (.land, 1) else none) else (if pc < 742 then (if pc = 741 then some (.lor, 1) else none) else (if pc = 742 then some (.invokevirtual 96, 3) else none))))) else (if pc < 749 then (if pc < 747 then (if pc < 746 then (if pc = 745 then some (.aload_n 2, 1) else none) else (if pc = 746 then some (.aload_n 0, 1) else none)) else (if pc < 748 then (if pc = 747 then some (.iload_n 3, 1) else none) else (if pc = 748 then some (.iconst 1, 1) else none))) else (if pc < 751 then (if pc < 750 then (if pc = 749 then some (.iadd, 1) else none) else (if pc = 750 then some (.iaload, 1) else none)) else (if pc < 752 then (if pc = 751 then some (.i2l, 1) else none) else (if pc < 754 then (if pc = 752 then some (.bipush 32, 2) else none) else (if pc = 754 then some (.lshl, 1) else none)))))))) else (if pc < 815 then (if pc < 785 then (if pc < 766 then (if pc < 759 then (if pc < 757 then (if pc < 756 then (if pc = 755 then some (.aload_n 0, 1) else none) else (if pc = 756 then some (.iload_n 3, 1) else none)) else (if pc < 758 then (if pc = 757 then some (.iconst 2, 1) else none) else (if pc = 758 then some (.iadd, 1) else none))) else (if pc < 761 then (if pc < 760 then (if pc = 759 then some (.iaload, 1) else none) else (if pc = 760 then some (.i2l, 1) else none)) else (if pc < 764 then (if pc = 761 then some (.ldc2_w 94, 3) else none) else (if pc < 765 then (if pc = 764 then some (.land, 1) else none) else (if pc = 765 then some (.lor, 1) else none))))) else (if pc < 774 then (if pc < 772 then (if pc < 769 then (if pc = 766 then some (.invokevirtual 100, 3) else none) else (if pc = 769 then some (.if_icmp .eq 90, 3) else none)) else (if pc < 773 then (if pc = 772 then some (.iconst 0, 1) else none) else (if pc = 773 then some (.ireturn, 1) else none))) else (if pc < 778 then (if pc < 775 then (if pc = 774 then some (.aload_n 1, 1) else none) else (if pc = 775 then some (.invokevirtual 101, 3) else none)) else (if pc < 779 then (if pc = 778 then some (.aload_n 2, 1) else none) else (if pc < 782 then (if pc = 779 then some (.invokevirtual 104, 3) else none) else (if pc = 782 then some (.if_icmp .eq 77, 3) else none)))))) else (if pc < 800 then (if pc < 791 then (if pc < 787 then (if pc < 786 then (if pc = 785 then some (.iconst 0, 1) else none) else (if pc = 786 then some (.ireturn, 1) else none)) else (if pc < 788 then (if pc = 787 then some (.aload_n 1, 1) else none) else (if pc = 788 then some (.invokevirtual 105, 3) else none))) else (if pc < 795 then (if pc < 792 then (if pc = 791 then some (.aload_n 2, 1) else none) else (if pc = 792 then some (.invokevirtual 108, 3) else none)) else (if pc < 798 then (if pc = 795 then some (.if_icmp .eq 64, 3) else none) else (if pc < 799 then (if pc = 798 then some (.iconst 0, 1) else none) else (if pc = 799 then some (.ireturn, 1) else none))))) else (if pc < 808 then (if pc < 804 then (if pc < 801 then (if pc = 800 then some (.aload_n 1, 1) else none) else (if pc = 801 then some (.invokevirtual 109, 3) else none)) else (if pc < 805 then (if pc = 804 then some (.aload_n 2, 1) else none) else (if pc = 805 then some (.invokevirtual 112, 3) else none))) else (if pc < 812 then (if pc < 811 then (if pc = 808 then some (.if_icmp .eq 51, 3) else none) else (if pc = 811 then some (.iconst 0, 1) else none)) else (if pc < 813 then (if pc = 812 then some (.ireturn, 1) else none) else (if pc < 814 then (if pc = 813 then some (.aload_n 1, 1) else none) else (if pc = 814 then some (.aload_n 0, 1) else none))))))) else (if pc < 839 then (if pc < 826 then (if pc < 819 then (if pc < 817 then (if pc < 816 then (if pc = 815 then some (.iload_n 3, 1) else none) else (if pc = 816 then some (.iconst 1, 1) else none)) else (if pc < 818 then (if pc = 817 then some (.iadd, 1) else none) else (if pc = 818 then some (.iaload, 1) else none))) else (if pc < 823 then (if pc < 822 then (if pc = 819 then some (.invokevirtual 113, 3) else none) else (if pc = 822 then some (.aload_n 2, 1) else none)) else (if pc < 824 then (if pc = 823 then some (.aload_n 0, 1) else none) else (if pc < 825 then (if pc = 824 then some (.iload_n 3, 1) else none) else (if pc = 825 then some (.iconst 1, 1) else none))))) else (if pc < 834 then (if pc < 828 then (if pc < 827 then (if pc = 826 then some (.iadd, 1) else none) else (if pc = 827 then some (.iaload, 1) else none)) else (if pc < 831 then (if pc = 828 then some (.invokevirtual 116, 3) else none) else (if pc = 831 then some (.if_icmp .eq 28, 3) else none))) else (if pc < 836 then (if pc < 835 then (if pc = 834 then some (.iconst 0, 1) else none) else (if pc = 835 then some (.ireturn, 1) else none)) else (if pc < 837 then (if pc = 836 then some (.aload_n 1, 1) else none) else (if pc < 838 then (if pc = 837 then some (.aload_n 0, 1) else none) else (if pc = 838 then some (.iload_n 3, 1) else none)))))) else (if pc < 850 then (if pc < 845 then (if pc < 841 then (if pc < 840 then (if pc = 839 then some (.iconst 1, 1) else none) else (if pc = 840 then some (.iadd, 1) else none)) else (if pc < 842 then (if pc = 841 then some (.iaload, 1) else none) else (if pc = 842 then some (.invokevirtual 117, 3) else none))) else (if pc < 847 then (if pc < 846 then (if pc = 845 then some (.aload_n 2, 1) else none) else (if pc = 846 then some (.aload_n 0, 1) else none)) else (if pc < 848 then (if pc = 847 then some (.iload_n 3, 1) else none) else (if pc < 849 then (if pc = 848 then some (.iconst 1, 1) else none) else (if pc = 849 then some (.iadd, 1) else none))))) else (if pc < 858 then (if pc < 854 then (if pc < 851 then (if pc = 850 then some (.iaload, 1) else none) else (if pc = 851 then some (.invokevirtual 120, 3) else none)) else (if pc < 857 then (if pc = 854 then some (.if_icmp .eq 5, 3) else none) else (if pc = 857 then some (.iconst 0, 1) else none))) else (if pc < 862 then (if pc < 859 then (if pc = 858 then some (.ireturn, 1) else none) else (if pc = 859 then some (.iinc 3 4, 3) else none)) else (if pc < 865 then (if pc = 862 then some (.goto (-844), 3) else none) else (if pc < 866 then (if pc = 865 then some (.iconst 1, 1) else none) else (if pc = 866 then some (.ireturn, 1) else none))))))))))
set_option maxRecDepth 100000 in
theorem xo_0_c0 : ([0, 3, 4, 7, 8, 11, 12, 15] : List Nat).all (fun pc => match xo_0 pc with | none => true | some r => decide (decode cL_law pc = .ok r)) = true := by decide +kernel
set_option maxRecDepth 100000 in
theorem xo_0_c1 : ([16, 17, 18, 19, 20, 21, 22, 23] : List Nat).all (fun pc => match xo_0 pc with | none => true | some r => decide (decode cL_law pc = .ok r)) = true := by decide +kernel
set_option maxRecDepth 100000 in
theorem xo_0_c2 : ([26, 27, 28, 29, 31, 32, 148, 149] : List Nat).all (fun pc => match xo_0 pc with | none => true | some r => decide (decode cL_law pc = .ok r)) = true := by decide +kernel
set_option maxRecDepth 100000 in
theorem xo_0_c3 : ([150, 151, 152, 153, 154, 155, 156, 157] : List Nat).all (fun pc => match xo_0 pc with | none => true | some r => decide (decode cL_law pc = .ok r)) = true := by decide +kernel
set_option maxRecDepth 100000 in
theorem xo_0_c4 : ([158, 159, 162, 163, 164, 165, 166, 167] : List Nat).all (fun pc => match xo_0 pc with | none => true | some r => decide (decode cL_law pc = .ok r)) = true := by decide +kernel
set_option maxRecDepth 100000 in
theorem xo_0_c5 : ([168, 169, 170, 171, 172, 173, 176, 179] : List Nat).all (fun pc => match xo_0 pc with | none => true | some r => decide (decode cL_law pc = .ok r)) = true := by decide +kernel
set_option maxRecDepth 100000 in
theorem xo_0_c6 : ([180, 181, 182, 183, 184, 185, 186, 187] : List Nat).all (fun pc => match xo_0 pc with | none => true | some r => decide (decode cL_law pc = .ok r)) = true := by decide +kernel
set_option maxRecDepth 100000 in
theorem xo_0_c7 : ([188, 189, 190, 191, 192, 193, 194, 195] : List Nat).all (fun pc => match xo_0 pc with | none => true | some r => decide (decode cL_law pc = .ok r)) = true := by decide +kernel
set_option maxRecDepth 100000 in
theorem xo_0_c8 : ([196, 197, 200, 201, 202, 203, 204, 205] : List Nat).all (fun pc => match xo_0 pc with | none => true | some r => decide (decode cL_law pc = .ok r)) = true := by decide +kernel
set_option maxRecDepth 100000 in
theorem xo_0_c9 : ([206, 207, 208, 209, 210, 211, 212, 213] : List Nat).all (fun pc => match xo_0 pc with | none => true | some r => decide (decode cL_law pc = .ok r)) = true := by decide +kernel
set_option maxRecDepth 100000 in
theorem xo_0_c10 : ([214, 215, 216, 219, 222, 223, 224, 225] : List Nat).all (fun pc => match xo_0 pc with | none => true | some r => decide (decode cL_law pc = .ok r)) = true := by decide +kernel
set_option maxRecDepth 100000 in
theorem xo_0_c11 : ([226, 227, 228, 229, 230, 233, 234, 235] : List Nat).all (fun pc => match xo_0 pc with | none => true | some r => decide (decode cL_law pc = .ok r)) = true := by decide +kernel
set_option maxRecDepth 100000 in
theorem xo_0_c12 : ([236, 237, 238, 239, 242, 245, 246, 247] : List Nat).all (fun pc => match xo_0 pc with | none => true | some r => decide (decode cL_law pc = .ok r)) = true := by decide +kernel
set_option maxRecDepth 100000 in
theorem xo_0_c13 : ([248, 249, 250, 251, 252, 253, 254, 255] : List Nat).all (fun pc => match xo_0 pc with | none => true | some r => decide (decode cL_law pc = .ok r)) = true := by decide +kernel
set_option maxRecDepth 100000 in
theorem xo_0_c14 : ([256, 257, 258, 261, 262, 263, 264, 265] : List Nat).all (fun pc => match xo_0 pc with | none => true | some r => decide (decode cL_law pc = .ok r)) = true := by decide +kernel
set_option maxRecDepth 100000 in
theorem xo_0_c15 : ([266, 267, 268, 269, 270, 271, 272, 275] : List Nat).all (fun pc => match xo_0 pc with | none => true | some r => decide (decode cL_law pc = .ok r)) = true := by decide +kernel
set_option maxRecDepth 100000 in
theorem xo_0_c16 : ([278, 279, 280, 281, 282, 283, 284, 285] : List Nat).all (fun pc => match xo_0 pc with | none => true | some r => decide (decode cL_law pc = .ok r)) = true := by decide +kernel
set_option maxRecDepth 100000 in
theorem xo_0_c17 : ([286, 289, 290, 291, 292, 293, 294, 295] : List Nat).all (fun pc => match xo_0 pc with | none => true | some r => decide (decode cL_law pc = .ok r)) = true := by decide +kernel
set_option maxRecDepth 100000 in
theorem xo_0_c18 : ([298, 301, 302, 303, 304, 305, 306, 307] : List Nat).all (fun pc => match xo_0 pc with | none => true | some r => decide (decode cL_law pc = .ok r)) = true := by decide +kernel
set_option maxRecDepth 100000 in
theorem xo_0_c19 : ([308, 309, 312, 313, 314, 315, 316, 317] : List Nat).all (fun pc => match xo_0 pc with | none => true | some r => decide (decode cL_law pc = .ok r)) = true := by decide +kernel
set_option maxRecDepth 100000 in
theorem xo_0_c20 : ([318, 321, 324, 325, 326, 327, 328, 329] : List Nat).all (fun pc => match xo_0 pc with | none => true | some r => decide (decode cL_law pc = .ok r)) = true := by decide +kernel
set_option maxRecDepth 100000 in
theorem xo_0_c21 : ([330, 331, 332, 335, 336, 337, 338, 339] : List Nat).all (fun pc => match xo_0 pc with | none => true | some r => decide (decode cL_law pc = .ok r)) = true := by decide +kernel
set_option maxRecDepth 100000 in
theorem xo_0_c22 : ([340, 341, 344, 347, 348, 349, 350, 351] : List Nat).all (fun pc => match xo_0 pc with | none => true | some r => decide (decode cL_law pc = .ok r)) = true := by decide +kernel
set_option maxRecDepth 100000 in
theorem xo_0_c23 : ([352, 353, 354, 355, 358, 359, 360, 361] : List Nat).all (fun pc => match xo_0 pc with | none => true | some r => decide (decode cL_law pc = .ok r)) = true := by decide +kernel
set_option maxRecDepth 100000 in
theorem xo_0_c24 : ([362, 363, 364, 367, 370, 371, 372, 373] : List Nat).all (fun pc => match xo_0 pc with | none => true | some r => decide (decode cL_law pc = .ok r)) = true := by decide +kernel
set_option maxRecDepth 100000 in
theorem xo_0_c25 : ([374, 375, 376, 377, 378, 381, 382, 383] : List Nat).all (fun pc => match xo_0 pc with | none => true | some r => decide (decode cL_law pc = .ok r)) = true := by decide +kernel
set_option maxRecDepth 100000 in
theorem xo_0_c26 : ([384, 385, 386, 387, 390, 393, 394, 395] : List Nat).all (fun pc => match xo_0 pc with | none => true | some r => decide (decode cL_law pc = .ok r)) = true := by decide +kernel
set_option maxRecDepth 100000 in
theorem xo_0_c27 : ([396, 397, 398, 399, 400, 401, 402, 403] : List Nat).all (fun pc => match xo_0 pc with | none => true | some r => decide (decode cL_law pc = .ok r)) = true := by decide +kernel
set_option maxRecDepth 100000 in
theorem xo_0_c28 : ([404, 405, 406, 407, 408, 409, 410, 411] : List Nat).all (fun pc => match xo_0 pc with | none => true | some r => decide (decode cL_law pc = .ok r)) = true := by decide +kernel
set_option maxRecDepth 100000 in
theorem xo_0_c29 : ([414, 415, 418, 419, 422, 423, 424, 425] : List Nat).all (fun pc => match xo_0 pc with | none => true | some r => decide (decode cL_law pc = .ok r)) = true := by decide +kernel
set_option maxRecDepth 100000 in
theorem xo_0_c30 : ([426, 427, 428, 429, 430, 431, 432, 433] : List Nat).all (fun pc => match xo_0 pc with | none => true | some r => decide (decode cL_law pc = .ok r)) = true := by decide +kernel
set_option maxRecDepth 100000 in
theorem xo_0_c31 : ([434, 435, 436, 437, 438, 441, 442, 445] : List Nat).all (fun pc => match xo_0 pc with | none => true | some r => decide (decode cL_law pc = .ok r)) = true := by decide +kernel
set_option maxRecDepth 100000 in
theorem xo_0_c32 : ([446, 449, 452, 453, 454, 455, 456, 457] : List Nat).all (fun pc => match xo_0 pc with | none => true | some r => decide (decode cL_law pc = .ok r)) = true := by decide +kernel
set_option maxRecDepth 100000 in
theorem xo_0_c33 : ([458, 459, 460, 463, 464, 465, 466, 467] : List Nat).all (fun pc => match xo_0 pc with | none => true | some r => decide (decode cL_law pc = .ok r)) = true := by decide +kernel
set_option maxRecDepth 100000 in
theorem xo_0_c34 : ([468, 469, 472, 475, 476, 477, 478, 481] : List Nat).all (fun pc => match xo_0 pc with | none => true | some r => decide (decode cL_law pc = .ok r)) = true := by decide +kernel
set_option maxRecDepth 100000 in
theorem xo_0_c35 : ([482, 485, 488, 489, 490, 491, 492, 493] : List Nat).all (fun pc => match xo_0 pc with | none => true | some r => decide (decode cL_law pc = .ok r)) = true := by decide +kernel
set_option maxRecDepth 100000 in
theorem xo_0_c36 : ([494, 495, 496, 497, 498, 499, 500, 501] : List Nat).all (fun pc => match xo_0 pc with | none => true | some r => decide (decode cL_law pc = .ok r)) = true := by decide +kernel
set_option maxRecDepth 100000 in
theorem xo_0_c37 : ([504, 505, 506, 507, 508, 509, 510, 511] : List Nat).all (fun pc => match xo_0 pc with | none => true | some r => decide (decode cL_law pc = .ok r)) = true := by decide +kernel
set_option maxRecDepth 100000 in
theorem xo_0_c38 : ([512, 513, 514, 515, 518, 521, 522, 523] : List Nat).all (fun pc => match xo_0 pc with | none => true | some r => decide (decode cL_law pc = .ok r)) = true := by decide +kernel
set_option maxRecDepth 100000 in
theorem xo_0_c39 : ([524, 525, 526, 527, 528, 529, 530, 531] : List Nat).all (fun pc => match xo_0 pc with | none => true | some r => decide (decode cL_law pc = .ok r)) = true := by decide +kernel
set_option maxRecDepth 100000 in
theorem xo_0_c40 : ([532, 533, 534, 537, 538, 539, 540, 541] : List Nat).all (fun pc => match xo_0 pc with | none => true | some r => decide (decode cL_law pc = .ok r)) = true := by decide +kernel
set_option maxRecDepth 100000 in
theorem xo_0_c41 : ([542, 543, 544, 545, 546, 547, 548, 551] : List Nat).all (fun pc => match xo_0 pc with | none => true | some r => decide (decode cL_law pc = .ok r)) = true := by decide +kernel
set_option maxRecDepth 100000 in
theorem xo_0_c42 : ([554, 555, 556, 557, 558, 559, 560, 561] : List Nat).all (fun pc => match xo_0 pc with | none => true | some r => decide (decode cL_law pc = .ok r)) = true := by decide +kernel
set_option maxRecDepth 100000 in
theorem xo_0_c43 : ([562, 563, 564, 565, 566, 567, 568, 569] : List Nat).all (fun pc => match xo_0 pc with | none => true | some r => decide (decode cL_law pc = .ok r)) = true := by decide +kernel
set_option maxRecDepth 100000 in
theorem xo_0_c44 : ([570, 571, 572, 575, 576, 577, 578, 579] : List Nat).all (fun pc => match xo_0 pc with | none => true | some r => decide (decode cL_law pc = .ok r)) = true := by decide +kernel
set_option maxRecDepth 100000 in
theorem xo_0_c45 : ([580, 581, 582, 583, 584, 585, 586, 587] : List Nat).all (fun pc => match xo_0 pc with | none => true | some r => decide (decode cL_law pc = .ok r)) = true := by decide +kernel
set_option maxRecDepth 100000 in
theorem xo_0_c46 : ([588, 589, 590, 591, 594, 597, 598, 599] : List Nat).all (fun pc => match xo_0 pc with | none => true | some r => decide (decode cL_law pc = .ok r)) = true := by decide +kernel
set_option maxRecDepth 100000 in
theorem xo_0_c47 : ([600, 601, 602, 603, 604, 605, 608, 609] : List Nat).all (fun pc => match xo_0 pc with | none => true | some r => decide (decode cL_law pc = .ok r)) = true := by decide +kernel
set_option maxRecDepth 100000 in
theorem xo_0_c48 : ([610, 611, 612, 613, 614, 617, 620, 621] : List Nat).all (fun pc => match xo_0 pc with | none => true | some r => decide (decode cL_law pc = .ok r)) = true := by decide +kernel
set_option maxRecDepth 100000 in
theorem xo_0_c49 : ([622, 623, 624, 625, 626, 627, 628, 631] : List Nat).all (fun pc => match xo_0 pc with | none => true | some r => decide (decode cL_law pc = .ok r)) = true := by decide +kernel
set_option maxRecDepth 100000 in
theorem xo_0_c50 : ([632, 633, 634, 635, 636, 637, 640, 643] : List Nat).all (fun pc => match xo_0 pc with | none => true | some r => decide (decode cL_law pc = .ok r)) = true := by decide +kernel
set_option maxRecDepth 100000 in
theorem xo_0_c51 : ([644, 645, 646, 647, 648, 649, 650, 651] : List Nat).all (fun pc => match xo_0 pc with | none => true | some r => decide (decode cL_law pc = .ok r)) = true := by decide +kernel
set_option maxRecDepth 100000 in
theorem xo_0_c52 : ([652, 653, 654, 655, 656, 657, 658, 659] : List Nat).all (fun pc => match xo_0 pc with | none => true | some r => decide (decode cL_law pc = .ok r)) = true := by decide +kernel
set_option maxRecDepth 100000 in
theorem xo_0_c53 : ([660, 661, 664, 665, 666, 667, 668, 669] : List Nat).all (fun pc => match xo_0 pc with | none => true | some r => decide (decode cL_law pc = .ok r)) = true := by decide +kernel
set_option maxRecDepth 100000 in
theorem xo_0_c54 : ([670, 671, 672, 673, 674, 675, 676, 677] : List Nat).all (fun pc => match xo_0 pc with | none => true | some r => decide (decode cL_law pc = .ok r)) = true := by decide +kernel
set_option maxRecDepth 100000 in
theorem xo_0_c55 : ([678, 679, 680, 683, 686, 687, 688, 689] : List Nat).all (fun pc => match xo_0 pc with | none => true | some r => decide (decode cL_law pc = .ok r)) = true := by decide +kernel
set_option maxRecDepth 100000 in
theorem xo_0_c56 : ([690, 691, 692, 693, 694, 695, 696, 697] : List Nat).all (fun pc => match xo_0 pc with | none => true | some r => decide (decode cL_law pc = .ok r)) = true := by decide +kernel
set_option maxRecDepth 100000 in
theorem xo_0_c57 : ([698, 699, 702, 703, 704, 705, 706, 707] : List Nat).all (fun pc => match xo_0 pc with | none => true | some r => decide (decode cL_law pc = .ok r)) = true := by decide +kernel
set_option maxRecDepth 100000 in
theorem xo_0_c58 : ([708, 709, 710, 711, 712, 713, 716, 719] : List Nat).all (fun pc => match xo_0 pc with | none => true | some r => decide (decode cL_law pc = .ok r)) = true := by decide +kernel
set_option maxRecDepth 100000 in
theorem xo_0_c59 : ([720, 721, 722, 723, 724, 725, 726, 727] : List Nat).all (fun pc => match xo_0 pc with | none => true | some r => decide (decode cL_law pc = .ok r)) = true := by decide +kernel
set_option maxRecDepth 100000 in
theorem xo_0_c60 : ([728, 730, 731, 732, 733, 734, 735, 736] : List Nat).all (fun pc => match xo_0 pc with | none => true | some r => decide (decode cL_law pc = .ok r)) = true := by decide +kernel
set_option maxRecDepth 100000 in
theorem xo_0_c61 : ([737, 740, 741, 742, 745, 746, 747, 748] : List Nat).all (fun pc => match xo_0 pc with | none => true | some r => decide (decode cL_law pc = .ok r)) = true := by decide +kernel
set_option maxRecDepth 100000 in
theorem xo_0_c62 : ([749, 750, 751, 752, 754, 755, 756, 757] : List Nat).all (fun pc => match xo_0 pc with | none => true | some r => decide (decode cL_law pc = .ok r)) = true := by decide +kernel
set_option maxRecDepth 100000 in
theorem xo_0_c63 : ([758, 759, 760, 761, 764, 765, 766, 769] : List Nat).all (fun pc => match xo_0 pc with | none => true | some r => decide (decode cL_law pc = .ok r)) = true := by decide +kernel
set_option maxRecDepth 100000 in
theorem xo_0_c64 : ([772, 773, 774, 775, 778, 779, 782, 785] : List Nat).all (fun pc => match xo_0 pc with | none => true | some r => decide (decode cL_law pc = .ok r)) = true := by decide +kernel
set_option maxRecDepth 100000 in
theorem xo_0_c65 : ([786, 787, 788, 791, 792, 795, 798, 799] : List Nat).all (fun pc => match xo_0 pc with | none => true | some r => decide (decode cL_law pc = .ok r)) = true := by decide +kernel
set_option maxRecDepth 100000 in
theorem xo_0_c66 : ([800, 801, 804, 805, 808, 811, 812, 813] : List Nat).all (fun pc => match xo_0 pc with | none => true | some r => decide (decode cL_law pc = .ok r)) = true := by decide +kernel
set_option maxRecDepth 100000 in
theorem xo_0_c67 : ([814, 815, 816, 817, 818, 819, 822, 823] : List Nat).all (fun pc => match xo_0 pc with | none => true | some r => decide (decode cL_law pc = .ok r)) = true := by decide +kernel
set_option maxRecDepth 100000 in
theorem xo_0_c68 : ([824, 825, 826, 827, 828, 831, 834, 835] : List Nat).all (fun pc => match xo_0 pc with | none => true | some r => decide (decode cL_law pc = .ok r)) = true := by decide +kernel
set_option maxRecDepth 100000 in
theorem xo_0_c69 : ([836, 837, 838, 839, 840, 841, 842, 845] : List Nat).all (fun pc => match xo_0 pc with | none => true | some r => decide (decode cL_law pc = .ok r)) = true := by decide +kernel
set_option maxRecDepth 100000 in
theorem xo_0_c70 : ([846, 847, 848, 849, 850, 851, 854, 857] : List Nat).all (fun pc => match xo_0 pc with | none => true | some r => decide (decode cL_law pc = .ok r)) = true := by decide +kernel
set_option maxRecDepth 100000 in
theorem xo_0_c71 : ([858, 859, 862, 865, 866] : List Nat).all (fun pc => match xo_0 pc with | none => true | some r => decide (decode cL_law pc = .ok r)) = true := by decide +kernel
set_option maxRecDepth 100000 in
theorem xo_0_no : (List.range 867).all (fun pc => (xo_0 pc).isNone || (([0, 3, 4, 7, 8, 11, 12, 15] : List Nat).contains pc || ([16, 17, 18, 19, 20, 21, 22, 23] : List Nat).contains pc || ([26, 27, 28, 29, 31, 32, 148, 149] : List Nat).contains pc || ([150, 151, 152, 153, 154, 155, 156, 157] : List Nat).contains pc || ([158, 159, 162, 163, 164, 165, 166, 167] : List Nat).contains pc || ([168, 169, 170, 171, 172, 173, 176, 179] : List Nat).contains pc || ([180, 181, 182, 183, 184, 185, 186, 187] : List Nat).contains pc || ([188, 189, 190, 191, 192, 193, 194, 195] : List Nat).contains pc || ([196, 197, 200, 201, 202, 203, 204, 205] : List Nat).contains pc || ([206, 207, 208, 209, 210, 211, 212, 213] : List Nat).contains pc || ([214, 215, 216, 219, 222, 223, 224, 225] : List Nat).contains pc || ([226, 227, 228, 229, 230, 233, 234, 235] : List Nat).contains pc || ([236, 237, 238, 239, 242, 245, 246, 247] : List Nat).contains pc || ([248, 249, 250, 251, 252, 253, 254, 255] : List Nat).contains pc || ([256, 257, 258, 261, 262, 263, 264, 265] : List Nat).contains pc || ([266, 267, 268, 269, 270, 271, 272, 275] : List Nat).contains pc || ([278, 279, 280, 281, 282, 283, 284, 285] : List Nat).contains pc || ([286, 289, 290, 291, 292, 293, 294, 295] : List Nat).contains pc || ([298, 301, 302, 303, 304, 305, 306, 307] : List Nat).contains pc || ([308, 309, 312, 313, 314, 315, 316, 317] : List Nat).contains pc || ([318, 321, 324, 325, 326, 327, 328, 329] : List Nat).contains pc || ([330, 331, 332, 335, 336, 337, 338, 339] : List Nat).contains pc || ([340, 341, 344, 347, 348, 349, 350, 351] : List Nat).contains pc || ([352, 353, 354, 355, 358, 359, 360, 361] : List Nat).contains pc || ([362, 363, 364, 367, 370, 371, 372, 373] : List Nat).contains pc || ([374, 375, 376, 377, 378, 381, 382, 383] : List Nat).contains pc || ([384, 385, 386, 387, 390, 393, 394, 395] : List Nat).contains pc || ([396, 397, 398, 399, 400, 401, 402, 403] : List Nat).contains pc || ([404, 405, 406, 407, 408, 409, 410, 411] : List Nat).contains pc || ([414, 415, 418, 419, 422, 423, 424, 425] : List Nat).contains pc || ([426, 427, 428, 429, 430, 431, 432, 433] : List Nat).contains pc || ([434, 435, 436, 437, 438, 441, 442, 445] : List Nat).contains pc || ([446, 449, 452, 453, 454, 455, 456, 457] : List Nat).contains pc || ([458, 459, 460, 463, 464, 465, 466, 467] : List Nat).contains pc || ([468, 469, 472, 475, 476, 477, 478, 481] : List Nat).contains pc || ([482, 485, 488, 489, 490, 491, 492, 493] : List Nat).contains pc || ([494, 495, 496, 497, 498, 499, 500, 501] : List Nat).contains pc || ([504, 505, 506, 507, 508, 509, 510, 511] : List Nat).contains pc || ([512, 513, 514, 515, 518, 521, 522, 523] : List Nat).contains pc || ([524, 525, 526, 527, 528, 529, 530, 531] : List Nat).contains pc || ([532, 533, 534, 537, 538, 539, 540, 541] : List Nat).contains pc || ([542, 543, 544, 545, 546, 547, 548, 551] : List Nat).contains pc || ([554, 555, 556, 557, 558, 559, 560, 561] : List Nat).contains pc || ([562, 563, 564, 565, 566, 567, 568, 569] : List Nat).contains pc || ([570, 571, 572, 575, 576, 577, 578, 579] : List Nat).contains pc || ([580, 581, 582, 583, 584, 585, 586, 587] : List Nat).contains pc || ([588, 589, 590, 591, 594, 597, 598, 599] : List Nat).contains pc || ([600, 601, 602, 603, 604, 605, 608, 609] : List Nat).contains pc || ([610, 611, 612, 613, 614, 617, 620, 621] : List Nat).contains pc || ([622, 623, 624, 625, 626, 627, 628, 631] : List Nat).contains pc || ([632, 633, 634, 635, 636, 637, 640, 643] : List Nat).contains pc || ([644, 645, 646, 647, 648, 649, 650, 651] : List Nat).contains pc || ([652, 653, 654, 655, 656, 657, 658, 659] : List Nat).contains pc || ([660, 661, 664, 665, 666, 667, 668, 669] : List Nat).contains pc || ([670, 671, 672, 673, 674, 675, 676, 677] : List Nat).contains pc || ([678, 679, 680, 683, 686, 687, 688, 689] : List Nat).contains pc || ([690, 691, 692, 693, 694, 695, 696, 697] : List Nat).contains pc || ([698, 699, 702, 703, 704, 705, 706, 707] : List Nat).contains pc || ([708, 709, 710, 711, 712, 713, 716, 719] : List Nat).contains pc || ([720, 721, 722, 723, 724, 725, 726, 727] : List Nat).contains pc || ([728, 730, 731, 732, 733, 734, 735, 736] : List Nat).contains pc || ([737, 740, 741, 742, 745, 746, 747, 748] : List Nat).contains pc || ([749, 750, 751, 752, 754, 755, 756, 757] : List Nat).contains pc || ([758, 759, 760, 761, 764, 765, 766, 769] : List Nat).contains pc || ([772, 773, 774, 775, 778, 779, 782, 785] : List Nat).contains pc || ([786, 787, 788, 791, 792, 795, 798, 799] : List Nat).contains pc || ([800, 801, 804, 805, 808, 811, 812, 813] : List Nat).contains pc || ([814, 815, 816, 817, 818, 819, 822, 823] : List Nat).contains pc || ([824, 825, 826, 827, 828, 831, 834, 835] : List Nat).contains pc || ([836, 837, 838, 839, 840, 841, 842, 845] : List Nat).contains pc || ([846, 847, 848, 849, 850, 851, 854, 857] : List Nat).contains pc || ([858, 859, 862, 865, 866] : List Nat).contains pc)) = true := by decide +kernel
theorem xo_0_top (pc : Nat) (h : 867 ≤ pc) : xo_0 pc = none := if_pos h
theorem xo_0_ok (pc : Nat) (r : Instr × Nat) (h : xo_0 pc = some r) : decode cL_law pc = .ok r := by
  rcases Nat.lt_or_ge pc 867 with hl | hl
  · have h1 := List.all_eq_true.mp xo_0_no pc (List.mem_range.mpr hl)
    rw [h] at h1
    simp only [Option.isNone_some, Bool.false_or, Bool.or_eq_true, List.contains_iff_mem, or_assoc] at h1
    rcases h1 with h1 | h1 | h1 | h1 | h1 | h1 | h1 | h1 | h1 | h1 | h1 | h1 | h1 | h1 | h1 | h1 | h1 | h1 | h1 | h1 | h1 | h1 | h1 | h1 | h1 | h1 | h1 | h1 | h1 | h1 | h1 | h1 | h1 | h1 | h1 | h1 | h1 | h1 | h1 | h1 | h1 | h1 | h1 | h1 | h1 | h1 | h1 | h1 | h1 | h1 | h1 | h1 | h1 | h1 | h1 | h1 | h1 | h1 | h1 | h1 | h1 | h1 | h1 | h1 | h1 | h1 | h1 | h1 | h1 | h1 | h1 | h1
    · have h2 := List.all_eq_true.mp xo_0_c0 pc h1
      rw [h] at h2
      exact of_decide_eq_true h2
    · have h2 := List.all_eq_true.mp xo_0_c1 pc h1
      rw [h] at h2
      exact of_decide_eq_true h2
    · have h2 := List.all_eq_true.mp xo_0_c2 pc h1
      rw [h] at h2
      exact of_decide_eq_true h2
    · have h2 := List.all_eq_true.mp xo_0_c3 pc h1
      rw [h] at h2
      exact of_decide_eq_true h2
    · have h2 := List.all_eq_true.mp xo_0_c4 pc h1
      rw [h] at h2
      exact of_decide_eq_true h2
    · have h2 := List.all_eq_true.mp xo_0_c5 pc h1
      rw [h] at h2
      exact of_decide_eq_true h2
    · have h2 := List.all_eq_true.mp xo_0_c6 pc h1
      rw [h] at h2
      exact of_decide_eq_true h2
    · have h2 := List.all_eq_true.mp xo_0_c7 pc h1
      rw [h] at h2
      exact of_decide_eq_true h2
    · have h2 := List.all_eq_true.mp xo_0_c8 pc h1
      rw [h] at h2
      exact of_decide_eq_true h2
    · have h2 := List.all_eq_true.mp xo_0_c9 pc h1
      rw [h] at h2
      exact of_decide_eq_true h2
    · have h2 := List.all_eq_true.mp xo_0_c10 pc h1
      rw [h] at h2
      exact of_decide_eq_true h2
    · have h2 := List.all_eq_true.mp xo_0_c11 pc h1
      rw [h] at h2
      exact of_decide_eq_true h2
    · have h2 := List.all_eq_true.mp xo_0_c12 pc h1
      rw [h] at h2
      exact of_decide_eq_true h2
    · have h2 := List.all_eq_true.mp xo_0_c13 pc h1
      rw [h] at h2
      exact of_decide_eq_true h2
    · have h2 := List.all_eq_true.mp xo_0_c14 pc h1
      rw [h] at h2
      exact of_decide_eq_true h2
    · have h2 := List.all_eq_true.mp xo_0_c15 pc h1
      rw [h] at h2
      exact of_decide_eq_true h2
    · have h2 := List.all_eq_true.mp xo_0_c16 pc h1
      rw [h] at h2
      exact of_decide_eq_true h2
    · have h2 := List.all_eq_true.mp xo_0_c17 pc h1
      rw [h] at h2
      exact of_decide_eq_true h2
    · have h2 := List.all_eq_true.mp xo_0_c18 pc h1
      rw [h] at h2
      exact of_decide_eq_true h2
    · have h2 := List.all_eq_true.mp xo_0_c19 pc h1
      rw [h] at h2
      exact of_decide_eq_true h2
    · have h2 := List.all_eq_true.mp xo_0_c20 pc h1
      rw [h] at h2
      exact of_decide_eq_true h2
    · have h2 := List.all_eq_true.mp xo_0_c21 pc h1
      rw [h] at h2
      exact of_decide_eq_true h2
    · have h2 := List.all_eq_true.mp xo_0_c22 pc h1
      rw [h] at h2
      exact of_decide_eq_true h2
    · have h2 := List.all_eq_true.mp xo_0_c23 pc h1
      rw [h] at h2
      exact of_decide_eq_true h2
    · have h2 := List.all_eq_true.mp xo_0_c24 pc h1
      rw [h] at h2
      exact of_decide_eq_true h2
    · have h2 := List.all_eq_true.mp xo_0_c25 pc h1
      rw [h] at h2
      exact of_decide_eq_true h2
    · have h2 := List.all_eq_true.mp xo_0_c26 pc h1
      rw [h] at h2
      exact of_decide_eq_true h2
    · have h2 := List.all_eq_true.mp xo_0_c27 pc h1
      rw [h] at h2
      exact of_decide_eq_true h2
    · have h2 := List.all_eq_true.mp xo_0_c28 pc h1
      rw [h] at h2
      exact of_decide_eq_true h2
    · have h2 := List.all_eq_true.mp xo_0_c29 pc h1
      rw [h] at h2
      exact of_decide_eq_true h2
    · have h2 := List.all_eq_true.mp xo_0_c30 pc h1
      rw [h] at h2
      exact of_decide_eq_true h2
    · have h2 := List.all_eq_true.mp xo_0_c31 pc h1
      rw [h] at h2
      exact of_decide_eq_true h2
    · have h2 := List.all_eq_true.mp xo_0_c32 pc h1
      rw [h] at h2
      exact of_decide_eq_true h2
    · have h2 := List.all_eq_true.mp xo_0_c33 pc h1
      rw [h] at h2
      exact of_decide_eq_true h2
    · have h2 := List.all_eq_true.mp xo_0_c34 pc h1
      rw [h] at h2
      exact of_decide_eq_true h2
    · have h2 := List.all_eq_true.mp xo_0_c35 pc h1
      rw [h] at h2
      exact of_decide_eq_true h2
    · have h2 := List.all_eq_true.mp xo_0_c36 pc h1
      rw [h] at h2
      exact of_decide_eq_true h2
    · have h2 := List.all_eq_true.mp xo_0_c37 pc h1
      rw [h] at h2
      exact of_decide_eq_true h2
    · have h2 := List.all_eq_true.mp xo_0_c38 pc h1
      rw [h] at h2
      exact of_decide_eq_true h2
    · have h2 := List.all_eq_true.mp xo_0_c39 pc h1
      rw [h] at h2
      exact of_decide_eq_true h2
    · have h2 := List.all_eq_true.mp xo_0_c40 pc h1
      rw [h] at h2
      exact of_decide_eq_true h2
    · have h2 := List.all_eq_true.mp xo_0_c41 pc h1
      rw [h] at h2
      exact of_decide_eq_true h2
    · have h2 := List.all_eq_true.mp xo_0_c42 pc h1
      rw [h] at h2
      exact of_decide_eq_true h2
    · have h2 := List.all_eq_true.mp xo_0_c43 pc h1
      rw [h] at h2
      exact of_decide_eq_true h2
    · have h2 := List.all_eq_true.mp xo_0_c44 pc h1
      rw [h] at h2
      exact of_decide_eq_true h2
    · have h2 := List.all_eq_true.mp xo_0_c45 pc h1
      rw [h] at h2
      exact of_decide_eq_true h2
    · have h2 := List.all_eq_true.mp xo_0_c46 pc h1
      rw [h] at h2
      exact of_decide_eq_true h2
    · have h2 := List.all_eq_true.mp xo_0_c47 pc h1
      rw [h] at h2
      exact of_decide_eq_true h2
    · have h2 := List.all_eq_true.mp xo_0_c48 pc h1
      rw [h] at h2
      exact of_decide_eq_true h2
    · have h2 := List.all_eq_true.mp xo_0_c49 pc h1
      rw [h] at h2
      exact of_decide_eq_true h2
    · have h2 := List.all_eq_true.mp xo_0_c50 pc h1
      rw [h] at h2
      exact of_decide_eq_true h2
    · have h2 := List.all_eq_true.mp xo_0_c51 pc h1
      rw [h] at h2
      exact of_decide_eq_true h2
    · have h2 := List.all_eq_true.mp xo_0_c52 pc h1
      rw [h] at h2
      exact of_decide_eq_true h2
    · have h2 := List.all_eq_true.mp xo_0_c53 pc h1
      rw [h] at h2
      exact of_decide_eq_true h2
    · have h2 := List.all_eq_true.mp xo_0_c54 pc h1
      rw [h] at h2
      exact of_decide_eq_true h2
    · have h2 := List.all_eq_true.mp xo_0_c55 pc h1
      rw [h] at h2
      exact of_decide_eq_true h2
    · have h2 := List.all_eq_true.mp xo_0_c56 pc h1
      rw [h] at h2
      exact of_decide_eq_true h2
    · have h2 := List.all_eq_true.mp xo_0_c57 pc h1
      rw [h] at h2
      exact of_decide_eq_true h2
    · have h2 := List.all_eq_true.mp xo_0_c58 pc h1
      rw [h] at h2
      exact of_decide_eq_true h2
    · have h2 := List.all_eq_true.mp xo_0_c59 pc h1
      rw [h] at h2
      exact of_decide_eq_true h2
    · have h2 := List.all_eq_true.mp xo_0_c60 pc h1
      rw [h] at h2
      exact of_decide_eq_true h2
    · have h2 := List.all_eq_true.mp xo_0_c61 pc h1
      rw [h] at h2
      exact of_decide_eq_true h2
    · have h2 := List.all_eq_true.mp xo_0_c62 pc h1
      rw [h] at h2
      exact of_decide_eq_true h2
    · have h2 := List.all_eq_true.mp xo_0_c63 pc h1
      rw [h] at h2
      exact of_decide_eq_true h2
    · have h2 := List.all_eq_true.mp xo_0_c64 pc h1
      rw [h] at h2
      exact of_decide_eq_true h2
    · have h2 := List.all_eq_true.mp xo_0_c65 pc h1
      rw [h] at h2
      exact of_decide_eq_true h2
    · have h2 := List.all_eq_true.mp xo_0_c66 pc h1
      rw [h] at h2
      exact of_decide_eq_true h2
    · have h2 := List.all_eq_true.mp xo_0_c67 pc h1
      rw [h] at h2
      exact of_decide_eq_true h2
    · have h2 := List.all_eq_true.mp xo_0_c68 pc h1
      rw [h] at h2
      exact of_decide_eq_true h2
    · have h2 := List.all_eq_true.mp xo_0_c69 pc h1
      rw [h] at h2
      exact of_decide_eq_true h2
    · have h2 := List.all_eq_true.mp xo_0_c70 pc h1
      rw [h] at h2
      exact of_decide_eq_true h2
    · have h2 := List.all_eq_true.mp xo_0_c71 pc h1
      rw [h] at h2
      exact of_decide_eq_true h2
  · rw [show xo_0 pc = none from if_pos hl] at h; cases h
/-- X6_noneForEachPerson -/
def xo_1 (pc : Nat) : Option (Instr × Nat) := if 26 ≤ pc then none else if pc < 13 then (if pc < 6 then (if pc < 4 then (if pc < 2 then (if pc = 0 then some (.bipush 20, 2) else none) else (if pc = 2 then some (.newarray .int, 2) else none)) else (if pc < 5 then (if pc = 4 then some (.astore_n 0, 1) else none) else (if pc = 5 then some (.iconst 0, 1) else none))) else (if pc < 8 then (if pc < 7 then (if pc = 6 then some (.istore_n 1, 1) else none) else (if pc = 7 then some (.iload_n 1, 1) else none)) else (if pc < 10 then (if pc = 8 then some (.bipush 20, 2) else none) else (if pc = 10 then some (.if_icmp .ge 14, 3) else none)))) else (if pc < 18 then (if pc < 15 then (if pc < 14 then (if pc = 13 then some (.aload_n 0, 1) else none) else (if pc = 14 then some (.iload_n 1, 1) else none)) else (if pc < 17 then (if pc = 15 then some (.bipush (-6), 2) else none) else (if pc = 17 then some (.iastore, 1) else none))) else (if pc < 24 then (if pc < 21 then (if pc = 18 then some (.iinc 1 1, 3) else none) else (if pc = 21 then some (.goto (-14), 3) else none)) else (if pc < 25 then (if pc = 24 then some (.aload_n 0, 1) else none) else (if pc = 25 then some (.areturn, 1) else none))))
set_option maxRecDepth 100000 in
theorem xo_1_c0 : ([0, 2, 4, 5, 6, 7, 8, 10, 13, 14, 15, 17, 18, 21, 24, 25] : List Nat).all (fun pc => match xo_1 pc with | none => true | some r => decide (decode cX6_noneForEachPerson pc = .ok r)) = true := by decide +kernel
set_option maxRecDepth 100000 in
theorem xo_1_no : (List.range 26).all (fun pc => (xo_1 pc).isNone || (([0, 2, 4, 5, 6, 7, 8, 10, 13, 14, 15, 17, 18, 21, 24, 25] : List Nat).contains pc)) = true := by decide +kernel
theorem xo_1_top (pc : Nat) (h : 26 ≤ pc) : xo_1 pc = none := if_pos h
theorem xo_1_ok (pc : Nat) (r : Instr × Nat) (h : xo_1 pc = some r) : decode cX6_noneForEachPerson pc = .ok r := by
  rcases Nat.lt_or_ge pc 26 with hl | hl
  · have h1 := List.all_eq_true.mp xo_1_no pc (List.mem_range.mpr hl)
    rw [h] at h1
    simp only [Option.isNone_some, Bool.false_or, Bool.or_eq_true, List.contains_iff_mem, or_assoc] at h1
    rcases h1 with h1
    · have h2 := List.all_eq_true.mp xo_1_c0 pc h1
      rw [h] at h2
      exact of_decide_eq_true h2
  · rw [show xo_1 pc = none from if_pos hl] at h; cases h
/-- X0_init -/
def xo_2 (pc : Nat) : Option (Instr × Nat) := if 48 ≤ pc then none else if pc < 25 then (if pc < 11 then (if pc < 4 then (if pc < 1 then (if pc = 0 then some (.aload_n 0, 1) else none) else (if pc = 1 then some (.invokespecial 3, 3) else none)) else (if pc < 5 then (if pc = 4 then some (.aload_n 0, 1) else none) else (if pc < 8 then (if pc = 5 then some (.invokestatic 9, 3) else none) else (if pc = 8 then some (.putfield 13, 3) else none)))) else (if pc < 18 then (if pc < 12 then (if pc = 11 then some (.aload_n 0, 1) else none) else (if pc < 15 then (if pc = 12 then some (.invokestatic 9, 3) else none) else (if pc = 15 then some (.putfield 19, 3) else none))) else (if pc < 19 then (if pc = 18 then some (.aload_n 0, 1) else none) else (if pc < 22 then (if pc = 19 then some (.invokestatic 9, 3) else none) else (if pc = 22 then some (.putfield 22, 3) else none))))) else (if pc < 36 then (if pc < 29 then (if pc < 26 then (if pc = 25 then some (.aload_n 0, 1) else none) else (if pc = 26 then some (.invokestatic 9, 3) else none)) else (if pc < 32 then (if pc = 29 then some (.putfield 25, 3) else none) else (if pc < 33 then (if pc = 32 then some (.aload_n 0, 1) else none) else (if pc = 33 then some (.invokestatic 9, 3) else none)))) else (if pc < 42 then (if pc < 39 then (if pc = 36 then some (.putfield 28, 3) else none) else (if pc < 40 then (if pc = 39 then some (.aload_n 0, 1) else none) else (if pc = 40 then some (.bipush 20, 2) else none))) else (if pc < 44 then (if pc = 42 then some (.newarray .int, 2) else none) else (if pc < 47 then (if pc = 44 then some (.putfield 31, 3) else none) else (if pc = 47 then some (.return_, 1) else none)))))
set_option maxRecDepth 100000 in
theorem xo_2_c0 : ([0, 1, 4, 5, 8, 11, 12, 15, 18, 19, 22, 25, 26, 29, 32, 33, 36, 39, 40, 42, 44, 47] : List Nat).all (fun pc => match xo_2 pc with | none => true | some r => decide (decode cX0_init pc = .ok r)) = true := by decide +kernel
set_option maxRecDepth 100000 in
theorem xo_2_no : (List.range 48).all (fun pc => (xo_2 pc).isNone || (([0, 1, 4, 5, 8, 11, 12, 15, 18, 19, 22, 25, 26, 29, 32, 33, 36, 39, 40, 42, 44, 47] : List Nat).contains pc)) = true := by decide +kernel
theorem xo_2_top (pc : Nat) (h : 48 ≤ pc) : xo_2 pc = none := if_pos h
theorem xo_2_ok (pc : Nat) (r : Instr × Nat) (h : xo_2 pc = some r) : decode cX0_init pc = .ok r := by
  rcases Nat.lt_or_ge pc 48 with hl | hl
  · have h1 := List.all_eq_true.mp xo_2_no pc (List.mem_range.mpr hl)
    rw [h] at h1
    simp only [Option.isNone_some, Bool.false_or, Bool.or_eq_true, List.contains_iff_mem, or_assoc] at h1
    rcases h1 with h1
    · have h2 := List.all_eq_true.mp xo_2_c0 pc h1
      rw [h] at h2
      exact of_decide_eq_true h2
  · rw [show xo_2 pc = none from if_pos hl] at h; cases h
/-- X0_copyFrom -/
def xo_3 (pc : Nat) : Option (Instr × Nat) := if 99 ≤ pc then none else if pc < 49 then (if pc < 24 then (if pc < 10 then (if pc < 5 then (if pc < 1 then (if pc = 0 then some (.aload_n 1, 1) else none) else (if pc < 4 then (if pc = 1 then some (.getfield 13, 3) else none) else (if pc = 4 then some (.iconst 0, 1) else none))) else (if pc < 6 then (if pc = 5 then some (.aload_n 0, 1) else none) else (if pc < 9 then (if pc = 6 then some (.getfield 13, 3) else none) else (if pc = 9 then some (.iconst 0, 1) else none)))) else (if pc < 16 then (if pc < 12 then (if pc = 10 then some (.bipush 20, 2) else none) else (if pc < 15 then (if pc = 12 then some (.invokestatic 34, 3) else none) else (if pc = 15 then some (.aload_n 1, 1) else none))) else (if pc < 20 then (if pc < 19 then (if pc = 16 then some (.getfield 19, 3) else none) else (if pc = 19 then some (.iconst 0, 1) else none)) else (if pc < 21 then (if pc = 20 then some (.aload_n 0, 1) else none) else (if pc = 21 then some (.getfield 19, 3) else none))))) else (if pc < 35 then (if pc < 30 then (if pc < 25 then (if pc = 24 then some (.iconst 0, 1) else none) else (if pc < 27 then (if pc = 25 then some (.bipush 20, 2) else none) else (if pc = 27 then some (.invokestatic 34, 3) else none))) else (if pc < 31 then (if pc = 30 then some (.aload_n 1, 1) else none) else (if pc < 34 then (if pc = 31 then some (.getfield 22, 3) else none) else (if pc = 34 then some (.iconst 0, 1) else none)))) else (if pc < 40 then (if pc < 36 then (if pc = 35 then some (.aload_n 0, 1) else none) else (if pc < 39 then (if pc = 36 then some (.getfield 22, 3) else none) else (if pc = 39 then some (.iconst 0, 1) else none))) else (if pc < 45 then (if pc < 42 then (if pc = 40 then some (.bipush 20, 2) else none) else (if pc = 42 then some (.invokestatic 34, 3) else none)) else (if pc < 46 then (if pc = 45 then some (.aload_n 1, 1) else none) else (if pc = 46 then some (.getfield 25, 3) else none)))))) else (if pc < 72 then (if pc < 60 then (if pc < 54 then (if pc < 50 then (if pc = 49 then some (.iconst 0, 1) else none) else (if pc < 51 then (if pc = 50 then some (.aload_n 0, 1) else none) else (if pc = 51 then some (.getfield 25, 3) else none))) else (if pc < 55 then (if pc = 54 then some (.iconst 0, 1) else none) else (if pc < 57 then (if pc = 55 then some (.bipush 20, 2) else none) else (if pc = 57 then some (.invokestatic 34, 3) else none)))) else (if pc < 65 then (if pc < 61 then (if pc = 60 then some (.aload_n 1, 1) else none) else (if pc < 64 then (if pc = 61 then some (.getfield 28, 3) else none) else (if pc = 64 then some (.iconst 0, 1) else none))) else (if pc < 69 then (if pc < 66 then (if pc = 65 then some (.aload_n 0, 1) else none) else (if pc = 66 then some (.getfield 28, 3) else none)) else (if pc < 70 then (if pc = 69 then some (.iconst 0, 1) else none) else (if pc = 70 then some (.bipush 20, 2) else none))))) else (if pc < 85 then (if pc < 79 then (if pc < 75 then (if pc = 72 then some (.invokestatic 34, 3) else none) else (if pc < 76 then (if pc = 75 then some (.aload_n 1, 1) else none) else (if pc = 76 then some (.getfield 31, 3) else none))) else (if pc < 81 then (if pc < 80 then (if pc = 79 then some (.iconst 0, 1) else none) else (if pc = 80 then some (.aload_n 0, 1) else none)) else (if pc < 84 then (if pc = 81 then some (.getfield 31, 3) else none) else (if pc = 84 then some (.iconst 0, 1) else none)))) else (if pc < 91 then (if pc < 87 then (if pc = 85 then some (.bipush 20, 2) else none) else (if pc < 90 then (if pc = 87 then some (.invokestatic 34, 3) else none) else (if pc = 90 then some (.aload_n 0, 1) else none))) else (if pc < 95 then (if pc < 92 then (if pc = 91 then some (.aload_n 1, 1) else none) else (if pc = 92 then some (.getfield 40, 3) else none)) else (if pc < 98 then (if pc = 95 then some (.putfield 40, 3) else none) else (if pc = 98 then some (.return_, 1) else none))))))
set_option maxRecDepth 100000 in
theorem xo_3_c0 : ([0, 1, 4, 5, 6, 9, 10, 12, 15, 16, 19, 20, 21, 24, 25, 27, 30, 31, 34, 35, 36, 39, 40, 42, 45, 46, 49, 50, 51, 54, 55, 57, 60, 61, 64, 65, 66, 69, 70, 72, 75, 76, 79, 80, 81, 84, 85, 87, 90, 91] : List Nat).all (fun pc => match xo_3 pc with | none => true | some r => decide (decode cX0_copyFrom pc = .ok r)) = true := by decide +kernel
set_option maxRecDepth 100000 in
theorem xo_3_c1 : ([92, 95, 98] : List Nat).all (fun pc => match xo_3 pc with | none => true | some r => decide (decode cX0_copyFrom pc = .ok r)) = true := by decide +kernel
set_option maxRecDepth 100000 in
theorem xo_3_no : (List.range 99).all (fun pc => (xo_3 pc).isNone || (([0, 1, 4, 5, 6, 9, 10, 12, 15, 16, 19, 20, 21, 24, 25, 27, 30, 31, 34, 35, 36, 39, 40, 42, 45, 46, 49, 50, 51, 54, 55, 57, 60, 61, 64, 65, 66, 69, 70, 72, 75, 76, 79, 80, 81, 84, 85, 87, 90, 91] : List Nat).contains pc || ([92, 95, 98] : List Nat).contains pc)) = true := by decide +kernel
theorem xo_3_top (pc : Nat) (h : 99 ≤ pc) : xo_3 pc = none := if_pos h
theorem xo_3_ok (pc : Nat) (r : Instr × Nat) (h : xo_3 pc = some r) : decode cX0_copyFrom pc = .ok r := by
  rcases Nat.lt_or_ge pc 99 with hl | hl
  · have h1 := List.all_eq_true.mp xo_3_no pc (List.mem_range.mpr hl)
    rw [h] at h1
    simp only [Option.isNone_some, Bool.false_or, Bool.or_eq_true, List.contains_iff_mem, or_assoc] at h1
    rcases h1 with h1 | h1
    · have h2 := List.all_eq_true.mp xo_3_c0 pc h1
      rw [h] at h2
      exact of_decide_eq_true h2
    · have h2 := List.all_eq_true.mp xo_3_c1 pc h1
      rw [h] at h2
      exact of_decide_eq_true h2
  · rw [show xo_3 pc = none from if_pos hl] at h; cases h
/-- X0_isInRack -/
def xo_4 (pc : Nat) : Option (Instr × Nat) := if 17 ≤ pc then none else if pc < 8 then (if pc < 4 then (if pc < 1 then (if pc = 0 then some (.aload_n 0, 1) else none) else (if pc = 1 then some (.getfield 13, 3) else none)) else (if pc < 5 then (if pc = 4 then some (.iload_n 1, 1) else none) else (if pc < 6 then (if pc = 5 then some (.iaload, 1) else none) else (if pc = 6 then some (.bipush (-6), 2) else none)))) else (if pc < 12 then (if pc < 11 then (if pc = 8 then some (.if_icmp .eq 7, 3) else none) else (if pc = 11 then some (.iconst 1, 1) else none)) else (if pc < 15 then (if pc = 12 then some (.goto 4, 3) else none) else (if pc < 16 then (if pc = 15 then some (.iconst 0, 1) else none) else (if pc = 16 then some (.ireturn, 1) else none))))
set_option maxRecDepth 100000 in
theorem xo_4_c0 : ([0, 1, 4, 5, 6, 8, 11, 12, 15, 16] : List Nat).all (fun pc => match xo_4 pc with | none => true | some r => decide (decode cX0_isInRack pc = .ok r)) = true := by decide +kernel
set_option maxRecDepth 100000 in
theorem xo_4_no : (List.range 17).all (fun pc => (xo_4 pc).isNone || (([0, 1, 4, 5, 6, 8, 11, 12, 15, 16] : List Nat).contains pc)) = true := by decide +kernel
theorem xo_4_top (pc : Nat) (h : 17 ≤ pc) : xo_4 pc = none := if_pos h
theorem xo_4_ok (pc : Nat) (r : Instr × Nat) (h : xo_4 pc = some r) : decode cX0_isInRack pc = .ok r := by
  rcases Nat.lt_or_ge pc 17 with hl | hl
  · have h1 := List.all_eq_true.mp xo_4_no pc (List.mem_range.mpr hl)
    rw [h] at h1
    simp only [Option.isNone_some, Bool.false_or, Bool.or_eq_true, List.contains_iff_mem, or_assoc] at h1
    rcases h1 with h1
    · have h2 := List.all_eq_true.mp xo_4_c0 pc h1
      rw [h] at h2
      exact of_decide_eq_true h2
  · rw [show xo_4 pc = none from if_pos hl] at h; cases h
/-- X0_isTagged -/
def xo_5 (pc : Nat) : Option (Instr × Nat) := if 17 ≤ pc then none else if pc < 8 then (if pc < 4 then (if pc < 1 then (if pc = 0 then some (.aload_n 0, 1) else none) else (if pc = 1 then some (.getfield 25, 3) else none)) else (if pc < 5 then (if pc = 4 then some (.iload_n 1, 1) else none) else (if pc < 6 then (if pc = 5 then some (.iaload, 1) else none) else (if pc = 6 then some (.bipush (-6), 2) else none)))) else (if pc < 12 then (if pc < 11 then (if pc = 8 then some (.if_icmp .eq 7, 3) else none) else (if pc = 11 then some (.iconst 1, 1) else none)) else (if pc < 15 then (if pc = 12 then some (.goto 4, 3) else none) else (if pc < 16 then (if pc = 15 then some (.iconst 0, 1) else none) else (if pc = 16 then some (.ireturn, 1) else none))))
set_option maxRecDepth 100000 in
theorem xo_5_c0 : ([0, 1, 4, 5, 6, 8, 11, 12, 15, 16] : List Nat).all (fun pc => match xo_5 pc with | none => true | some r => decide (decode cX0_isTagged pc = .ok r)) = true := by decide +kernel
set_option maxRecDepth 100000 in
theorem xo_5_no : (List.range 17).all (fun pc => (xo_5 pc).isNone || (([0, 1, 4, 5, 6, 8, 11, 12, 15, 16] : List Nat).contains pc)) = true := by decide +kernel
theorem xo_5_top (pc : Nat) (h : 17 ≤ pc) : xo_5 pc = none := if_pos h
theorem xo_5_ok (pc : Nat) (r : Instr × Nat) (h : xo_5 pc = some r) : decode cX0_isTagged pc = .ok r := by
  rcases Nat.lt_or_ge pc 17 with hl | hl
  · have h1 := List.all_eq_true.mp xo_5_no pc (List.mem_range.mpr hl)
    rw [h] at h1
    simp only [Option.isNone_some, Bool.false_or, Bool.or_eq_true, List.contains_iff_mem, or_assoc] at h1
    rcases h1 with h1
    · have h2 := List.all_eq_true.mp xo_5_c0 pc h1
      rw [h] at h2
      exact of_decide_eq_true h2
  · rw [show xo_5 pc = none from if_pos hl] at h; cases h
/-- X0_isInPound -/
def xo_6 (pc : Nat) : Option (Instr × Nat) := if 17 ≤ pc then none else if pc < 8 then (if pc < 4 then (if pc < 1 then (if pc = 0 then some (.aload_n 0, 1) else none) else (if pc = 1 then some (.getfield 28, 3) else none)) else (if pc < 5 then (if pc = 4 then some (.iload_n 1, 1) else none) else (if pc < 6 then (if pc = 5 then some (.iaload, 1) else none) else (if pc = 6 then some (.bipush (-6), 2) else none)))) else (if pc < 12 then (if pc < 11 then (if pc = 8 then some (.if_icmp .eq 7, 3) else none) else (if pc = 11 then some (.iconst 1, 1) else none)) else (if pc < 15 then (if pc = 12 then some (.goto 4, 3) else none) else (if pc < 16 then (if pc = 15 then some (.iconst 0, 1) else none) else (if pc = 16 then some (.ireturn, 1) else none))))
set_option maxRecDepth 100000 in
theorem xo_6_c0 : ([0, 1, 4, 5, 6, 8, 11, 12, 15, 16] : List Nat).all (fun pc => match xo_6 pc with | none => true | some r => decide (decode cX0_isInPound pc = .ok r)) = true := by decide +kernel
set_option maxRecDepth 100000 in
theorem xo_6_no : (List.range 17).all (fun pc => (xo_6 pc).isNone || (([0, 1, 4, 5, 6, 8, 11, 12, 15, 16] : List Nat).contains pc)) = true := by decide +kernel
theorem xo_6_top (pc : Nat) (h : 17 ≤ pc) : xo_6 pc = none := if_pos h
theorem xo_6_ok (pc : Nat) (r : Instr × Nat) (h : xo_6 pc = some r) : decode cX0_isInPound pc = .ok r := by
  rcases Nat.lt_or_ge pc 17 with hl | hl
  · have h1 := List.all_eq_true.mp xo_6_no pc (List.mem_range.mpr hl)
    rw [h] at h1
    simp only [Option.isNone_some, Bool.false_or, Bool.or_eq_true, List.contains_iff_mem, or_assoc] at h1
    rcases h1 with h1
    · have h2 := List.all_eq_true.mp xo_6_c0 pc h1
      rw [h] at h2
      exact of_decide_eq_true h2
  · rw [show xo_6 pc = none from if_pos hl] at h; cases h
/-- X0_placeInRack -/
def xo_7 (pc : Nat) : Option (Instr × Nat) := if 23 ≤ pc then none else if pc < 12 then (if pc < 6 then (if pc < 4 then (if pc < 1 then (if pc = 0 then some (.aload_n 0, 1) else none) else (if pc = 1 then some (.getfield 13, 3) else none)) else (if pc < 5 then (if pc = 4 then some (.iload_n 1, 1) else none) else (if pc = 5 then some (.iload_n 2, 1) else none))) else (if pc < 8 then (if pc < 7 then (if pc = 6 then some (.iastore, 1) else none) else (if pc = 7 then some (.aload_n 0, 1) else none)) else (if pc < 11 then (if pc = 8 then some (.getfield 19, 3) else none) else (if pc = 11 then some (.iload_n 1, 1) else none)))) else (if pc < 18 then (if pc < 14 then (if pc < 13 then (if pc = 12 then some (.iload_n 3, 1) else none) else (if pc = 13 then some (.iastore, 1) else none)) else (if pc < 15 then (if pc = 14 then some (.aload_n 0, 1) else none) else (if pc = 15 then some (.getfield 22, 3) else none))) else (if pc < 21 then (if pc < 19 then (if pc = 18 then some (.iload_n 1, 1) else none) else (if pc = 19 then some (.iload 4, 2) else none)) else (if pc < 22 then (if pc = 21 then some (.iastore, 1) else none) else (if pc = 22 then some (.return_, 1) else none))))
set_option maxRecDepth 100000 in
theorem xo_7_c0 : ([0, 1, 4, 5, 6, 7, 8, 11, 12, 13, 14, 15, 18, 19, 21, 22] : List Nat).all (fun pc => match xo_7 pc with | none => true | some r => decide (decode cX0_placeInRack pc = .ok r)) = true := by decide +kernel
set_option maxRecDepth 100000 in
theorem xo_7_no : (List.range 23).all (fun pc => (xo_7 pc).isNone || (([0, 1, 4, 5, 6, 7, 8, 11, 12, 13, 14, 15, 18, 19, 21, 22] : List Nat).contains pc)) = true := by decide +kernel
theorem xo_7_top (pc : Nat) (h : 23 ≤ pc) : xo_7 pc = none := if_pos h
theorem xo_7_ok (pc : Nat) (r : Instr × Nat) (h : xo_7 pc = some r) : decode cX0_placeInRack pc = .ok r := by
  rcases Nat.lt_or_ge pc 23 with hl | hl
  · have h1 := List.all_eq_true.mp xo_7_no pc (List.mem_range.mpr hl)
    rw [h] at h1
    simp only [Option.isNone_some, Bool.false_or, Bool.or_eq_true, List.contains_iff_mem, or_assoc] at h1
    rcases h1 with h1
    · have h2 := List.all_eq_true.mp xo_7_c0 pc h1
      rw [h] at h2
      exact of_decide_eq_true h2
  · rw [show xo_7 pc = none from if_pos hl] at h; cases h
/-- X0_leaveRack -/
def xo_8 (pc : Nat) : Option (Instr × Nat) := if 33 ≤ pc then none else if pc < 16 then (if pc < 8 then (if pc < 4 then (if pc < 1 then (if pc = 0 then some (.aload_n 0, 1) else none) else (if pc = 1 then some (.getfield 13, 3) else none)) else (if pc < 5 then (if pc = 4 then some (.iload_n 1, 1) else none) else (if pc < 7 then (if pc = 5 then some (.bipush (-6), 2) else none) else (if pc = 7 then some (.iastore, 1) else none)))) else (if pc < 12 then (if pc < 9 then (if pc = 8 then some (.aload_n 0, 1) else none) else (if pc = 9 then some (.getfield 19, 3) else none)) else (if pc < 13 then (if pc = 12 then some (.iload_n 1, 1) else none) else (if pc < 15 then (if pc = 13 then some (.bipush (-6), 2) else none) else (if pc = 15 then some (.iastore, 1) else none))))) else (if pc < 24 then (if pc < 20 then (if pc < 17 then (if pc = 16 then some (.aload_n 0, 1) else none) else (if pc = 17 then some (.getfield 22, 3) else none)) else (if pc < 21 then (if pc = 20 then some (.iload_n 1, 1) else none) else (if pc < 23 then (if pc = 21 then some (.bipush (-6), 2) else none) else (if pc = 23 then some (.iastore, 1) else none)))) else (if pc < 29 then (if pc < 25 then (if pc = 24 then some (.aload_n 0, 1) else none) else (if pc < 28 then (if pc = 25 then some (.getfield 25, 3) else none) else (if pc = 28 then some (.iload_n 1, 1) else none))) else (if pc < 31 then (if pc = 29 then some (.bipush (-6), 2) else none) else (if pc < 32 then (if pc = 31 then some (.iastore, 1) else none) else (if pc = 32 then some (.return_, 1) else none)))))
set_option maxRecDepth 100000 in
theorem xo_8_c0 : ([0, 1, 4, 5, 7, 8, 9, 12, 13, 15, 16, 17, 20, 21, 23, 24, 25, 28, 29, 31, 32] : List Nat).all (fun pc => match xo_8 pc with | none => true | some r => decide (decode cX0_leaveRack pc = .ok r)) = true := by decide +kernel
set_option maxRecDepth 100000 in
theorem xo_8_no : (List.range 33).all (fun pc => (xo_8 pc).isNone || (([0, 1, 4, 5, 7, 8, 9, 12, 13, 15, 16, 17, 20, 21, 23, 24, 25, 28, 29, 31, 32] : List Nat).contains pc)) = true := by decide +kernel
theorem xo_8_top (pc : Nat) (h : 33 ≤ pc) : xo_8 pc = none := if_pos h
theorem xo_8_ok (pc : Nat) (r : Instr × Nat) (h : xo_8 pc = some r) : decode cX0_leaveRack pc = .ok r := by
  rcases Nat.lt_or_ge pc 33 with hl | hl
  · have h1 := List.all_eq_true.mp xo_8_no pc (List.mem_range.mpr hl)
    rw [h] at h1
    simp only [Option.isNone_some, Bool.false_or, Bool.or_eq_true, List.contains_iff_mem, or_assoc] at h1
    rcases h1 with h1
    · have h2 := List.all_eq_true.mp xo_8_c0 pc h1
      rw [h] at h2
      exact of_decide_eq_true h2
  · rw [show xo_8 pc = none from if_pos hl] at h; cases h
/-- X0_isDue -/
def xo_9 (pc : Nat) : Option (Instr × Nat) := if 34 ≤ pc then none else if pc < 18 then (if pc < 7 then (if pc < 4 then (if pc < 1 then (if pc = 0 then some (.aload_n 0, 1) else none) else (if pc = 1 then some (.getfield 13, 3) else none)) else (if pc < 5 then (if pc = 4 then some (.iload_n 1, 1) else none) else (if pc < 6 then (if pc = 5 then some (.iaload, 1) else none) else (if pc = 6 then some (.iload_n 2, 1) else none)))) else (if pc < 11 then (if pc < 10 then (if pc = 7 then some (.if_icmp .ne 25, 3) else none) else (if pc = 10 then some (.aload_n 0, 1) else none)) else (if pc < 12 then (if pc = 11 then some (.iload_n 1, 1) else none) else (if pc < 15 then (if pc = 12 then some (.invokevirtual 44, 3) else none) else (if pc = 15 then some (.ifCond .eq 17, 3) else none))))) else (if pc < 25 then (if pc < 22 then (if pc < 19 then (if pc = 18 then some (.aload_n 0, 1) else none) else (if pc = 19 then some (.getfield 25, 3) else none)) else (if pc < 23 then (if pc = 22 then some (.iload_n 1, 1) else none) else (if pc < 24 then (if pc = 23 then some (.iaload, 1) else none) else (if pc = 24 then some (.iload_n 3, 1) else none)))) else (if pc < 29 then (if pc < 28 then (if pc = 25 then some (.if_icmp .gt 7, 3) else none) else (if pc = 28 then some (.iconst 1, 1) else none)) else (if pc < 32 then (if pc = 29 then some (.goto 4, 3) else none) else (if pc < 33 then (if pc = 32 then some (.iconst 0, 1) else none) else (if pc = 33 then some (.ireturn, 1) else none)))))
set_option maxRecDepth 100000 in
theorem xo_9_c0 : ([0, 1, 4, 5, 6, 7, 10, 11, 12, 15, 18, 19, 22, 23, 24, 25, 28, 29, 32, 33] : List Nat).all (fun pc => match xo_9 pc with | none => true | some r => decide (decode cX0_isDue pc = .ok r)) = true := by decide +kernel
set_option maxRecDepth 100000 in
theorem xo_9_no : (List.range 34).all (fun pc => (xo_9 pc).isNone || (([0, 1, 4, 5, 6, 7, 10, 11, 12, 15, 18, 19, 22, 23, 24, 25, 28, 29, 32, 33] : List Nat).contains pc)) = true := by decide +kernel
theorem xo_9_top (pc : Nat) (h : 34 ≤ pc) : xo_9 pc = none := if_pos h
theorem xo_9_ok (pc : Nat) (r : Instr × Nat) (h : xo_9 pc = some r) : decode cX0_isDue pc = .ok r := by
  rcases Nat.lt_or_ge pc 34 with hl | hl
  · have h1 := List.all_eq_true.mp xo_9_no pc (List.mem_range.mpr hl)
    rw [h] at h1
    simp only [Option.isNone_some, Bool.false_or, Bool.or_eq_true, List.contains_iff_mem, or_assoc] at h1
    rcases h1 with h1
    · have h2 := List.all_eq_true.mp xo_9_c0 pc h1
      rw [h] at h2
      exact of_decide_eq_true h2
  · rw [show xo_9 pc = none from if_pos hl] at h; cases h
/-- X0_countTagged -/
def xo_10 (pc : Nat) : Option (Instr × Nat) := if 34 ≤ pc then none else if pc < 15 then (if pc < 5 then (if pc < 2 then (if pc < 1 then (if pc = 0 then some (.iconst 0, 1) else none) else (if pc = 1 then some (.istore_n 3, 1) else none)) else (if pc < 3 then (if pc = 2 then some (.iconst 0, 1) else none) else (if pc = 3 then some (.istore 4, 2) else none))) else (if pc < 9 then (if pc < 7 then (if pc = 5 then some (.iload 4, 2) else none) else (if pc = 7 then some (.bipush 20, 2) else none)) else (if pc < 12 then (if pc = 9 then some (.if_icmp .ge 23, 3) else none) else (if pc < 13 then (if pc = 12 then some (.aload_n 0, 1) else none) else (if pc = 13 then some (.iload 4, 2) else none))))) else (if pc < 23 then (if pc < 17 then (if pc < 16 then (if pc = 15 then some (.iload_n 1, 1) else none) else (if pc = 16 then some (.iload_n 2, 1) else none)) else (if pc < 20 then (if pc = 17 then some (.invokevirtual 48, 3) else none) else (if pc = 20 then some (.ifCond .eq 6, 3) else none))) else (if pc < 29 then (if pc < 26 then (if pc = 23 then some (.iinc 3 1, 3) else none) else (if pc = 26 then some (.iinc 4 1, 3) else none)) else (if pc < 32 then (if pc = 29 then some (.goto (-24), 3) else none) else (if pc < 33 then (if pc = 32 then some (.iload_n 3, 1) else none) else (if pc = 33 then some (.ireturn, 1) else none)))))
set_option maxRecDepth 100000 in
theorem xo_10_c0 : ([0, 1, 2, 3, 5, 7, 9, 12, 13, 15, 16, 17, 20, 23, 26, 29, 32, 33] : List Nat).all (fun pc => match xo_10 pc with | none => true | some r => decide (decode cX0_countTagged pc = .ok r)) = true := by decide +kernel
set_option maxRecDepth 100000 in
theorem xo_10_no : (List.range 34).all (fun pc => (xo_10 pc).isNone || (([0, 1, 2, 3, 5, 7, 9, 12, 13, 15, 16, 17, 20, 23, 26, 29, 32, 33] : List Nat).contains pc)) = true := by decide +kernel
theorem xo_10_top (pc : Nat) (h : 34 ≤ pc) : xo_10 pc = none := if_pos h
theorem xo_10_ok (pc : Nat) (r : Instr × Nat) (h : xo_10 pc = some r) : decode cX0_countTagged pc = .ok r := by
  rcases Nat.lt_or_ge pc 34 with hl | hl
  · have h1 := List.all_eq_true.mp xo_10_no pc (List.mem_range.mpr hl)
    rw [h] at h1
    simp only [Option.isNone_some, Bool.false_or, Bool.or_eq_true, List.contains_iff_mem, or_assoc] at h1
    rcases h1 with h1
    · have h2 := List.all_eq_true.mp xo_10_c0 pc h1
      rw [h] at h2
      exact of_decide_eq_true h2
  · rw [show xo_10 pc = none from if_pos hl] at h; cases h
/-- X0_takeTagged -/
def xo_11 (pc : Nat) : Option (Instr × Nat) := if 61 ≤ pc then none else if pc < 30 then (if pc < 14 then (if pc < 6 then (if pc < 3 then (if pc < 1 then (if pc = 0 then some (.iconst 0, 1) else none) else (if pc = 1 then some (.istore 4, 2) else none)) else (if pc < 4 then (if pc = 3 then some (.iconst 0, 1) else none) else (if pc = 4 then some (.istore 5, 2) else none))) else (if pc < 10 then (if pc < 8 then (if pc = 6 then some (.iload 5, 2) else none) else (if pc = 8 then some (.bipush 20, 2) else none)) else (if pc < 13 then (if pc = 10 then some (.if_icmp .ge 37, 3) else none) else (if pc = 13 then some (.aload_n 0, 1) else none)))) else (if pc < 21 then (if pc < 17 then (if pc < 16 then (if pc = 14 then some (.iload 5, 2) else none) else (if pc = 16 then some (.iload_n 1, 1) else none)) else (if pc < 18 then (if pc = 17 then some (.iload_n 2, 1) else none) else (if pc = 18 then some (.invokevirtual 48, 3) else none))) else (if pc < 25 then (if pc < 24 then (if pc = 21 then some (.ifCond .eq 20, 3) else none) else (if pc = 24 then some (.aload_n 0, 1) else none)) else (if pc < 27 then (if pc = 25 then some (.iload 5, 2) else none) else (if pc = 27 then some (.invokevirtual 52, 3) else none))))) else (if pc < 47 then (if pc < 37 then (if pc < 34 then (if pc < 31 then (if pc = 30 then some (.aload_n 0, 1) else none) else (if pc = 31 then some (.getfield 28, 3) else none)) else (if pc < 36 then (if pc = 34 then some (.iload 5, 2) else none) else (if pc = 36 then some (.iload_n 3, 1) else none))) else (if pc < 41 then (if pc < 38 then (if pc = 37 then some (.iastore, 1) else none) else (if pc = 38 then some (.iinc 4 1, 3) else none)) else (if pc < 44 then (if pc = 41 then some (.iinc 5 1, 3) else none) else (if pc = 44 then some (.goto (-38), 3) else none)))) else (if pc < 54 then (if pc < 49 then (if pc < 48 then (if pc = 47 then some (.aload_n 0, 1) else none) else (if pc = 48 then some (.dup, 1) else none)) else (if pc < 52 then (if pc = 49 then some (.getfield 40, 3) else none) else (if pc = 52 then some (.iload 4, 2) else none))) else (if pc < 58 then (if pc < 55 then (if pc = 54 then some (.iadd, 1) else none) else (if pc = 55 then some (.putfield 40, 3) else none)) else (if pc < 60 then (if pc = 58 then some (.iload 4, 2) else none) else (if pc = 60 then some (.ireturn, 1) else none)))))
set_option maxRecDepth 100000 in
theorem xo_11_c0 : ([0, 1, 3, 4, 6, 8, 10, 13, 14, 16, 17, 18, 21, 24, 25, 27, 30, 31, 34, 36, 37, 38, 41, 44, 47, 48, 49, 52, 54, 55, 58, 60] : List Nat).all (fun pc => match xo_11 pc with | none => true | some r => decide (decode cX0_takeTagged pc = .ok r)) = true := by decide +kernel
set_option maxRecDepth 100000 in
theorem xo_11_no : (List.range 61).all (fun pc => (xo_11 pc).isNone || (([0, 1, 3, 4, 6, 8, 10, 13, 14, 16, 17, 18, 21, 24, 25, 27, 30, 31, 34, 36, 37, 38, 41, 44, 47, 48, 49, 52, 54, 55, 58, 60] : List Nat).contains pc)) = true := by decide +kernel
theorem xo_11_top (pc : Nat) (h : 61 ≤ pc) : xo_11 pc = none := if_pos h
theorem xo_11_ok (pc : Nat) (r : Instr × Nat) (h : xo_11 pc = some r) : decode cX0_takeTagged pc = .ok r := by
  rcases Nat.lt_or_ge pc 61 with hl | hl
  · have h1 := List.all_eq_true.mp xo_11_no pc (List.mem_range.mpr hl)
    rw [h] at h1
    simp only [Option.isNone_some, Bool.false_or, Bool.or_eq_true, List.contains_iff_mem, or_assoc] at h1
    rcases h1 with h1
    · have h2 := List.all_eq_true.mp xo_11_c0 pc h1
      rw [h] at h2
      exact of_decide_eq_true h2
  · rw [show xo_11 pc = none from if_pos hl] at h; cases h
/-- X0_sellFromPound -/
def xo_12 (pc : Nat) : Option (Instr × Nat) := if 51 ≤ pc then none else if pc < 26 then (if pc < 10 then (if pc < 3 then (if pc < 1 then (if pc = 0 then some (.iconst 0, 1) else none) else (if pc < 2 then (if pc = 1 then some (.istore_n 2, 1) else none) else (if pc = 2 then some (.iload_n 2, 1) else none))) else (if pc < 8 then (if pc < 5 then (if pc = 3 then some (.bipush 20, 2) else none) else (if pc = 5 then some (.if_icmp .ge 45, 3) else none)) else (if pc < 9 then (if pc = 8 then some (.aload_n 0, 1) else none) else (if pc = 9 then some (.iload_n 2, 1) else none)))) else (if pc < 20 then (if pc < 16 then (if pc < 13 then (if pc = 10 then some (.invokevirtual 56, 3) else none) else (if pc = 13 then some (.ifCond .eq 31, 3) else none)) else (if pc < 17 then (if pc = 16 then some (.aload_n 0, 1) else none) else (if pc = 17 then some (.getfield 28, 3) else none))) else (if pc < 22 then (if pc < 21 then (if pc = 20 then some (.iload_n 2, 1) else none) else (if pc = 21 then some (.iaload, 1) else none)) else (if pc < 23 then (if pc = 22 then some (.iload_n 1, 1) else none) else (if pc = 23 then some (.if_icmp .gt 21, 3) else none))))) else (if pc < 39 then (if pc < 33 then (if pc < 30 then (if pc < 27 then (if pc = 26 then some (.aload_n 0, 1) else none) else (if pc = 27 then some (.getfield 28, 3) else none)) else (if pc < 31 then (if pc = 30 then some (.iload_n 2, 1) else none) else (if pc = 31 then some (.bipush (-6), 2) else none))) else (if pc < 35 then (if pc < 34 then (if pc = 33 then some (.iastore, 1) else none) else (if pc = 34 then some (.aload_n 0, 1) else none)) else (if pc < 38 then (if pc = 35 then some (.getfield 31, 3) else none) else (if pc = 38 then some (.iload_n 2, 1) else none)))) else (if pc < 43 then (if pc < 41 then (if pc < 40 then (if pc = 39 then some (.dup2, 1) else none) else (if pc = 40 then some (.iaload, 1) else none)) else (if pc < 42 then (if pc = 41 then some (.iconst 1, 1) else none) else (if pc = 42 then some (.iadd, 1) else none))) else (if pc < 47 then (if pc < 44 then (if pc = 43 then some (.iastore, 1) else none) else (if pc = 44 then some (.iinc 2 1, 3) else none)) else (if pc < 50 then (if pc = 47 then some (.goto (-45), 3) else none) else (if pc = 50 then some (.return_, 1) else none)))))
set_option maxRecDepth 100000 in
theorem xo_12_c0 : ([0, 1, 2, 3, 5, 8, 9, 10, 13, 16, 17, 20, 21, 22, 23, 26, 27, 30, 31, 33, 34, 35, 38, 39, 40, 41, 42, 43, 44, 47, 50] : List Nat).all (fun pc => match xo_12 pc with | none => true | some r => decide (decode cX0_sellFromPound pc = .ok r)) = true := by decide +kernel
set_option maxRecDepth 100000 in
theorem xo_12_no : (List.range 51).all (fun pc => (xo_12 pc).isNone || (([0, 1, 2, 3, 5, 8, 9, 10, 13, 16, 17, 20, 21, 22, 23, 26, 27, 30, 31, 33, 34, 35, 38, 39, 40, 41, 42, 43, 44, 47, 50] : List Nat).contains pc)) = true := by decide +kernel
theorem xo_12_top (pc : Nat) (h : 51 ≤ pc) : xo_12 pc = none := if_pos h
theorem xo_12_ok (pc : Nat) (r : Instr × Nat) (h : xo_12 pc = some r) : decode cX0_sellFromPound pc = .ok r := by
  rcases Nat.lt_or_ge pc 51 with hl | hl
  · have h1 := List.all_eq_true.mp xo_12_no pc (List.mem_range.mpr hl)
    rw [h] at h1
    simp only [Option.isNone_some, Bool.false_or, Bool.or_eq_true, List.contains_iff_mem, or_assoc] at h1
    rcases h1 with h1
    · have h2 := List.all_eq_true.mp xo_12_c0 pc h1
      rw [h] at h2
      exact of_decide_eq_true h2
  · rw [show xo_12 pc = none from if_pos hl] at h; cases h
/-- X0_racksTaken -/
def xo_13 (pc : Nat) : Option (Instr × Nat) := if 39 ≤ pc then none else if pc < 20 then (if pc < 7 then (if pc < 3 then (if pc < 1 then (if pc = 0 then some (.iconst 0, 1) else none) else (if pc < 2 then (if pc = 1 then some (.istore_n 2, 1) else none) else (if pc = 2 then some (.iconst 0, 1) else none))) else (if pc < 4 then (if pc = 3 then some (.istore_n 3, 1) else none) else (if pc < 5 then (if pc = 4 then some (.iload_n 3, 1) else none) else (if pc = 5 then some (.bipush 20, 2) else none)))) else (if pc < 14 then (if pc < 10 then (if pc = 7 then some (.if_icmp .ge 30, 3) else none) else (if pc < 11 then (if pc = 10 then some (.aload_n 0, 1) else none) else (if pc = 11 then some (.getfield 13, 3) else none))) else (if pc < 16 then (if pc < 15 then (if pc = 14 then some (.iload_n 3, 1) else none) else (if pc = 15 then some (.iaload, 1) else none)) else (if pc < 17 then (if pc = 16 then some (.iload_n 1, 1) else none) else (if pc = 17 then some (.if_icmp .ne 14, 3) else none))))) else (if pc < 28 then (if pc < 23 then (if pc < 21 then (if pc = 20 then some (.iload_n 2, 1) else none) else (if pc < 22 then (if pc = 21 then some (.iconst 1, 1) else none) else (if pc = 22 then some (.aload_n 0, 1) else none))) else (if pc < 26 then (if pc = 23 then some (.getfield 19, 3) else none) else (if pc < 27 then (if pc = 26 then some (.iload_n 3, 1) else none) else (if pc = 27 then some (.iaload, 1) else none)))) else (if pc < 31 then (if pc < 29 then (if pc = 28 then some (.ishl, 1) else none) else (if pc < 30 then (if pc = 29 then some (.ior, 1) else none) else (if pc = 30 then some (.istore_n 2, 1) else none))) else (if pc < 37 then (if pc < 34 then (if pc = 31 then some (.iinc 3 1, 3) else none) else (if pc = 34 then some (.goto (-30), 3) else none)) else (if pc < 38 then (if pc = 37 then some (.iload_n 2, 1) else none) else (if pc = 38 then some (.ireturn, 1) else none)))))
set_option maxRecDepth 100000 in
theorem xo_13_c0 : ([0, 1, 2, 3, 4, 5, 7, 10, 11, 14, 15, 16, 17, 20, 21, 22, 23, 26, 27, 28, 29, 30, 31, 34, 37, 38] : List Nat).all (fun pc => match xo_13 pc with | none => true | some r => decide (decode cX0_racksTaken pc = .ok r)) = true := by decide +kernel
set_option maxRecDepth 100000 in
theorem xo_13_no : (List.range 39).all (fun pc => (xo_13 pc).isNone || (([0, 1, 2, 3, 4, 5, 7, 10, 11, 14, 15, 16, 17, 20, 21, 22, 23, 26, 27, 28, 29, 30, 31, 34, 37, 38] : List Nat).contains pc)) = true := by decide +kernel
theorem xo_13_top (pc : Nat) (h : 39 ≤ pc) : xo_13 pc = none := if_pos h
theorem xo_13_ok (pc : Nat) (r : Instr × Nat) (h : xo_13 pc = some r) : decode cX0_racksTaken pc = .ok r := by
  rcases Nat.lt_or_ge pc 39 with hl | hl
  · have h1 := List.all_eq_true.mp xo_13_no pc (List.mem_range.mpr hl)
    rw [h] at h1
    simp only [Option.isNone_some, Bool.false_or, Bool.or_eq_true, List.contains_iff_mem, or_assoc] at h1
    rcases h1 with h1
    · have h2 := List.all_eq_true.mp xo_13_c0 pc h1
      rw [h] at h2
      exact of_decide_eq_true h2
  · rw [show xo_13 pc = none from if_pos hl] at h; cases h
/-- X0_racksTagged -/
def xo_14 (pc : Nat) : Option (Instr × Nat) := if 47 ≤ pc then none else if pc < 22 then (if pc < 10 then (if pc < 3 then (if pc < 1 then (if pc = 0 then some (.iconst 0, 1) else none) else (if pc < 2 then (if pc = 1 then some (.istore_n 2, 1) else none) else (if pc = 2 then some (.iconst 0, 1) else none))) else (if pc < 5 then (if pc < 4 then (if pc = 3 then some (.istore_n 3, 1) else none) else (if pc = 4 then some (.iload_n 3, 1) else none)) else (if pc < 7 then (if pc = 5 then some (.bipush 20, 2) else none) else (if pc = 7 then some (.if_icmp .ge 38, 3) else none)))) else (if pc < 16 then (if pc < 14 then (if pc < 11 then (if pc = 10 then some (.aload_n 0, 1) else none) else (if pc = 11 then some (.getfield 13, 3) else none)) else (if pc < 15 then (if pc = 14 then some (.iload_n 3, 1) else none) else (if pc = 15 then some (.iaload, 1) else none))) else (if pc < 20 then (if pc < 17 then (if pc = 16 then some (.iload_n 1, 1) else none) else (if pc = 17 then some (.if_icmp .ne 22, 3) else none)) else (if pc < 21 then (if pc = 20 then some (.aload_n 0, 1) else none) else (if pc = 21 then some (.iload_n 3, 1) else none))))) else (if pc < 35 then (if pc < 29 then (if pc < 25 then (if pc = 22 then some (.invokevirtual 44, 3) else none) else (if pc < 28 then (if pc = 25 then some (.ifCond .eq 14, 3) else none) else (if pc = 28 then some (.iload_n 2, 1) else none))) else (if pc < 31 then (if pc < 30 then (if pc = 29 then some (.iconst 1, 1) else none) else (if pc = 30 then some (.aload_n 0, 1) else none)) else (if pc < 34 then (if pc = 31 then some (.getfield 19, 3) else none) else (if pc = 34 then some (.iload_n 3, 1) else none)))) else (if pc < 39 then (if pc < 37 then (if pc < 36 then (if pc = 35 then some (.iaload, 1) else none) else (if pc = 36 then some (.ishl, 1) else none)) else (if pc < 38 then (if pc = 37 then some (.ior, 1) else none) else (if pc = 38 then some (.istore_n 2, 1) else none))) else (if pc < 45 then (if pc < 42 then (if pc = 39 then some (.iinc 3 1, 3) else none) else (if pc = 42 then some (.goto (-38), 3) else none)) else (if pc < 46 then (if pc = 45 then some (.iload_n 2, 1) else none) else (if pc = 46 then some (.ireturn, 1) else none)))))
set_option maxRecDepth 100000 in
theorem xo_14_c0 : ([0, 1, 2, 3, 4, 5, 7, 10, 11, 14, 15, 16, 17, 20, 21, 22, 25, 28, 29, 30, 31, 34, 35, 36, 37, 38, 39, 42, 45, 46] : List Nat).all (fun pc => match xo_14 pc with | none => true | some r => decide (decode cX0_racksTagged pc = .ok r)) = true := by decide +kernel
set_option maxRecDepth 100000 in
theorem xo_14_no : (List.range 47).all (fun pc => (xo_14 pc).isNone || (([0, 1, 2, 3, 4, 5, 7, 10, 11, 14, 15, 16, 17, 20, 21, 22, 25, 28, 29, 30, 31, 34, 35, 36, 37, 38, 39, 42, 45, 46] : List Nat).contains pc)) = true := by decide +kernel
theorem xo_14_top (pc : Nat) (h : 47 ≤ pc) : xo_14 pc = none := if_pos h
theorem xo_14_ok (pc : Nat) (r : Instr × Nat) (h : xo_14 pc = some r) : decode cX0_racksTagged pc = .ok r := by
  rcases Nat.lt_or_ge pc 47 with hl | hl
  · have h1 := List.all_eq_true.mp xo_14_no pc (List.mem_range.mpr hl)
    rw [h] at h1
    simp only [Option.isNone_some, Bool.false_or, Bool.or_eq_true, List.contains_iff_mem, or_assoc] at h1
    rcases h1 with h1
    · have h2 := List.all_eq_true.mp xo_14_c0 pc h1
      rw [h] at h2
      exact of_decide_eq_true h2
  · rw [show xo_14 pc = none from if_pos hl] at h; cases h
/-- X6_countPeople -/
def xo_15 (pc : Nat) : Option (Instr × Nat) := if 29 ≤ pc then none else if pc < 11 then (if pc < 4 then (if pc < 2 then (if pc < 1 then (if pc = 0 then some (.iconst 0, 1) else none) else (if pc = 1 then some (.istore_n 1, 1) else none)) else (if pc < 3 then (if pc = 2 then some (.iconst 0, 1) else none) else (if pc = 3 then some (.istore_n 2, 1) else none))) else (if pc < 6 then (if pc < 5 then (if pc = 4 then some (.iload_n 2, 1) else none) else (if pc = 5 then some (.aload_n 0, 1) else none)) else (if pc < 7 then (if pc = 6 then some (.arraylength, 1) else none) else (if pc < 10 then (if pc = 7 then some (.if_icmp .ge 20, 3) else none) else (if pc = 10 then some (.aload_n 0, 1) else none))))) else (if pc < 18 then (if pc < 13 then (if pc < 12 then (if pc = 11 then some (.iload_n 2, 1) else none) else (if pc = 12 then some (.iaload, 1) else none)) else (if pc < 15 then (if pc = 13 then some (.bipush (-6), 2) else none) else (if pc = 15 then some (.if_icmp .eq 6, 3) else none))) else (if pc < 24 then (if pc < 21 then (if pc = 18 then some (.iinc 1 1, 3) else none) else (if pc = 21 then some (.iinc 2 1, 3) else none)) else (if pc < 27 then (if pc = 24 then some (.goto (-20), 3) else none) else (if pc < 28 then (if pc = 27 then some (.iload_n 1, 1) else none) else (if pc = 28 then some (.ireturn, 1) else none)))))
set_option maxRecDepth 100000 in
theorem xo_15_c0 : ([0, 1, 2, 3, 4, 5, 6, 7, 10, 11, 12, 13, 15, 18, 21, 24, 27, 28] : List Nat).all (fun pc => match xo_15 pc with | none => true | some r => decide (decode cX6_countPeople pc = .ok r)) = true := by decide +kernel
set_option maxRecDepth 100000 in
theorem xo_15_no : (List.range 29).all (fun pc => (xo_15 pc).isNone || (([0, 1, 2, 3, 4, 5, 6, 7, 10, 11, 12, 13, 15, 18, 21, 24, 27, 28] : List Nat).contains pc)) = true := by decide +kernel
theorem xo_15_top (pc : Nat) (h : 29 ≤ pc) : xo_15 pc = none := if_pos h
theorem xo_15_ok (pc : Nat) (r : Instr × Nat) (h : xo_15 pc = some r) : decode cX6_countPeople pc = .ok r := by
  rcases Nat.lt_or_ge pc 29 with hl | hl
  · have h1 := List.all_eq_true.mp xo_15_no pc (List.mem_range.mpr hl)
    rw [h] at h1
    simp only [Option.isNone_some, Bool.false_or, Bool.or_eq_true, List.contains_iff_mem, or_assoc] at h1
    rcases h1 with h1
    · have h2 := List.all_eq_true.mp xo_15_c0 pc h1
      rw [h] at h2
      exact of_decide_eq_true h2
  · rw [show xo_15 pc = none from if_pos hl] at h; cases h
/-- X0_countInRacks -/
def xo_16 (pc : Nat) : Option (Instr × Nat) := if 8 ≤ pc then none else if pc < 4 then (if pc < 1 then (if pc = 0 then some (.aload_n 0, 1) else none) else (if pc = 1 then some (.getfield 13, 3) else none)) else (if pc < 7 then (if pc = 4 then some (.invokestatic 59, 3) else none) else (if pc = 7 then some (.ireturn, 1) else none))
set_option maxRecDepth 100000 in
theorem xo_16_c0 : ([0, 1, 4, 7] : List Nat).all (fun pc => match xo_16 pc with | none => true | some r => decide (decode cX0_countInRacks pc = .ok r)) = true := by decide +kernel
set_option maxRecDepth 100000 in
theorem xo_16_no : (List.range 8).all (fun pc => (xo_16 pc).isNone || (([0, 1, 4, 7] : List Nat).contains pc)) = true := by decide +kernel
theorem xo_16_top (pc : Nat) (h : 8 ≤ pc) : xo_16 pc = none := if_pos h
theorem xo_16_ok (pc : Nat) (r : Instr × Nat) (h : xo_16 pc = some r) : decode cX0_countInRacks pc = .ok r := by
  rcases Nat.lt_or_ge pc 8 with hl | hl
  · have h1 := List.all_eq_true.mp xo_16_no pc (List.mem_range.mpr hl)
    rw [h] at h1
    simp only [Option.isNone_some, Bool.false_or, Bool.or_eq_true, List.contains_iff_mem, or_assoc] at h1
    rcases h1 with h1
    · have h2 := List.all_eq_true.mp xo_16_c0 pc h1
      rw [h] at h2
      exact of_decide_eq_true h2
  · rw [show xo_16 pc = none from if_pos hl] at h; cases h
/-- X0_countAllTagged -/
def xo_17 (pc : Nat) : Option (Instr × Nat) := if 8 ≤ pc then none else if pc < 4 then (if pc < 1 then (if pc = 0 then some (.aload_n 0, 1) else none) else (if pc = 1 then some (.getfield 25, 3) else none)) else (if pc < 7 then (if pc = 4 then some (.invokestatic 59, 3) else none) else (if pc = 7 then some (.ireturn, 1) else none))
set_option maxRecDepth 100000 in
theorem xo_17_c0 : ([0, 1, 4, 7] : List Nat).all (fun pc => match xo_17 pc with | none => true | some r => decide (decode cX0_countAllTagged pc = .ok r)) = true := by decide +kernel
set_option maxRecDepth 100000 in
theorem xo_17_no : (List.range 8).all (fun pc => (xo_17 pc).isNone || (([0, 1, 4, 7] : List Nat).contains pc)) = true := by decide +kernel
theorem xo_17_top (pc : Nat) (h : 8 ≤ pc) : xo_17 pc = none := if_pos h
theorem xo_17_ok (pc : Nat) (r : Instr × Nat) (h : xo_17 pc = some r) : decode cX0_countAllTagged pc = .ok r := by
  rcases Nat.lt_or_ge pc 8 with hl | hl
  · have h1 := List.all_eq_true.mp xo_17_no pc (List.mem_range.mpr hl)
    rw [h] at h1
    simp only [Option.isNone_some, Bool.false_or, Bool.or_eq_true, List.contains_iff_mem, or_assoc] at h1
    rcases h1 with h1
    · have h2 := List.all_eq_true.mp xo_17_c0 pc h1
      rw [h] at h2
      exact of_decide_eq_true h2
  · rw [show xo_17 pc = none from if_pos hl] at h; cases h
/-- X0_countInPound -/
def xo_18 (pc : Nat) : Option (Instr × Nat) := if 8 ≤ pc then none else if pc < 4 then (if pc < 1 then (if pc = 0 then some (.aload_n 0, 1) else none) else (if pc = 1 then some (.getfield 28, 3) else none)) else (if pc < 7 then (if pc = 4 then some (.invokestatic 59, 3) else none) else (if pc = 7 then some (.ireturn, 1) else none))
set_option maxRecDepth 100000 in
theorem xo_18_c0 : ([0, 1, 4, 7] : List Nat).all (fun pc => match xo_18 pc with | none => true | some r => decide (decode cX0_countInPound pc = .ok r)) = true := by decide +kernel
set_option maxRecDepth 100000 in
theorem xo_18_no : (List.range 8).all (fun pc => (xo_18 pc).isNone || (([0, 1, 4, 7] : List Nat).contains pc)) = true := by decide +kernel
theorem xo_18_top (pc : Nat) (h : 8 ≤ pc) : xo_18 pc = none := if_pos h
theorem xo_18_ok (pc : Nat) (r : Instr × Nat) (h : xo_18 pc = some r) : decode cX0_countInPound pc = .ok r := by
  rcases Nat.lt_or_ge pc 8 with hl | hl
  · have h1 := List.all_eq_true.mp xo_18_no pc (List.mem_range.mpr hl)
    rw [h] at h1
    simp only [Option.isNone_some, Bool.false_or, Bool.or_eq_true, List.contains_iff_mem, or_assoc] at h1
    rcases h1 with h1
    · have h2 := List.all_eq_true.mp xo_18_c0 pc h1
      rw [h] at h2
      exact of_decide_eq_true h2
  · rw [show xo_18 pc = none from if_pos hl] at h; cases h
/-- X0_countSold -/
def xo_19 (pc : Nat) : Option (Instr × Nat) := if 27 ≤ pc then none else if pc < 12 then (if pc < 4 then (if pc < 2 then (if pc < 1 then (if pc = 0 then some (.iconst 0, 1) else none) else (if pc = 1 then some (.istore_n 1, 1) else none)) else (if pc < 3 then (if pc = 2 then some (.iconst 0, 1) else none) else (if pc = 3 then some (.istore_n 2, 1) else none))) else (if pc < 7 then (if pc < 5 then (if pc = 4 then some (.iload_n 2, 1) else none) else (if pc = 5 then some (.bipush 20, 2) else none)) else (if pc < 10 then (if pc = 7 then some (.if_icmp .ge 18, 3) else none) else (if pc < 11 then (if pc = 10 then some (.iload_n 1, 1) else none) else (if pc = 11 then some (.aload_n 0, 1) else none))))) else (if pc < 18 then (if pc < 16 then (if pc < 15 then (if pc = 12 then some (.getfield 31, 3) else none) else (if pc = 15 then some (.iload_n 2, 1) else none)) else (if pc < 17 then (if pc = 16 then some (.iaload, 1) else none) else (if pc = 17 then some (.iadd, 1) else none))) else (if pc < 22 then (if pc < 19 then (if pc = 18 then some (.istore_n 1, 1) else none) else (if pc = 19 then some (.iinc 2 1, 3) else none)) else (if pc < 25 then (if pc = 22 then some (.goto (-18), 3) else none) else (if pc < 26 then (if pc = 25 then some (.iload_n 1, 1) else none) else (if pc = 26 then some (.ireturn, 1) else none)))))
set_option maxRecDepth 100000 in
theorem xo_19_c0 : ([0, 1, 2, 3, 4, 5, 7, 10, 11, 12, 15, 16, 17, 18, 19, 22, 25, 26] : List Nat).all (fun pc => match xo_19 pc with | none => true | some r => decide (decode cX0_countSold pc = .ok r)) = true := by decide +kernel
set_option maxRecDepth 100000 in
theorem xo_19_no : (List.range 27).all (fun pc => (xo_19 pc).isNone || (([0, 1, 2, 3, 4, 5, 7, 10, 11, 12, 15, 16, 17, 18, 19, 22, 25, 26] : List Nat).contains pc)) = true := by decide +kernel
theorem xo_19_top (pc : Nat) (h : 27 ≤ pc) : xo_19 pc = none := if_pos h
theorem xo_19_ok (pc : Nat) (r : Instr × Nat) (h : xo_19 pc = some r) : decode cX0_countSold pc = .ok r := by
  rcases Nat.lt_or_ge pc 27 with hl | hl
  · have h1 := List.all_eq_true.mp xo_19_no pc (List.mem_range.mpr hl)
    rw [h] at h1
    simp only [Option.isNone_some, Bool.false_or, Bool.or_eq_true, List.contains_iff_mem, or_assoc] at h1
    rcases h1 with h1
    · have h2 := List.all_eq_true.mp xo_19_c0 pc h1
      rw [h] at h2
      exact of_decide_eq_true h2
  · rw [show xo_19 pc = none from if_pos hl] at h; cases h
/-- X3_init -/
def xo_20 (pc : Nat) : Option (Instr × Nat) := if 13 ≤ pc then none else if pc < 5 then (if pc < 1 then (if pc = 0 then some (.aload_n 0, 1) else none) else (if pc < 4 then (if pc = 1 then some (.invokespecial 3, 3) else none) else (if pc = 4 then some (.aload_n 0, 1) else none))) else (if pc < 9 then (if pc < 7 then (if pc = 5 then some (.bipush 60, 2) else none) else (if pc = 7 then some (.newarray .char, 2) else none)) else (if pc < 12 then (if pc = 9 then some (.putfield 9, 3) else none) else (if pc = 12 then some (.return_, 1) else none)))
set_option maxRecDepth 100000 in
theorem xo_20_c0 : ([0, 1, 4, 5, 7, 9, 12] : List Nat).all (fun pc => match xo_20 pc with | none => true | some r => decide (decode cX3_init pc = .ok r)) = true := by decide +kernel
set_option maxRecDepth 100000 in
theorem xo_20_no : (List.range 13).all (fun pc => (xo_20 pc).isNone || (([0, 1, 4, 5, 7, 9, 12] : List Nat).contains pc)) = true := by decide +kernel
theorem xo_20_top (pc : Nat) (h : 13 ≤ pc) : xo_20 pc = none := if_pos h
theorem xo_20_ok (pc : Nat) (r : Instr × Nat) (h : xo_20 pc = some r) : decode cX3_init pc = .ok r := by
  rcases Nat.lt_or_ge pc 13 with hl | hl
  · have h1 := List.all_eq_true.mp xo_20_no pc (List.mem_range.mpr hl)
    rw [h] at h1
    simp only [Option.isNone_some, Bool.false_or, Bool.or_eq_true, List.contains_iff_mem, or_assoc] at h1
    rcases h1 with h1
    · have h2 := List.all_eq_true.mp xo_20_c0 pc h1
      rw [h] at h2
      exact of_decide_eq_true h2
  · rw [show xo_20 pc = none from if_pos hl] at h; cases h
/-- X1_init -/
def xo_21 (pc : Nat) : Option (Instr × Nat) := if 16 ≤ pc then none else if pc < 8 then (if pc < 4 then (if pc < 1 then (if pc = 0 then some (.aload_n 0, 1) else none) else (if pc = 1 then some (.invokespecial 3, 3) else none)) else (if pc < 5 then (if pc = 4 then some (.aload_n 0, 1) else none) else (if pc = 5 then some (.new 9, 3) else none))) else (if pc < 12 then (if pc < 9 then (if pc = 8 then some (.dup, 1) else none) else (if pc = 9 then some (.invokespecial 11, 3) else none)) else (if pc < 15 then (if pc = 12 then some (.putfield 12, 3) else none) else (if pc = 15 then some (.return_, 1) else none)))
set_option maxRecDepth 100000 in
theorem xo_21_c0 : ([0, 1, 4, 5, 8, 9, 12, 15] : List Nat).all (fun pc => match xo_21 pc with | none => true | some r => decide (decode cX1_init pc = .ok r)) = true := by decide +kernel
set_option maxRecDepth 100000 in
theorem xo_21_no : (List.range 16).all (fun pc => (xo_21 pc).isNone || (([0, 1, 4, 5, 8, 9, 12, 15] : List Nat).contains pc)) = true := by decide +kernel
theorem xo_21_top (pc : Nat) (h : 16 ≤ pc) : xo_21 pc = none := if_pos h
theorem xo_21_ok (pc : Nat) (r : Instr × Nat) (h : xo_21 pc = some r) : decode cX1_init pc = .ok r := by
  rcases Nat.lt_or_ge pc 16 with hl | hl
  · have h1 := List.all_eq_true.mp xo_21_no pc (List.mem_range.mpr hl)
    rw [h] at h1
    simp only [Option.isNone_some, Bool.false_or, Bool.or_eq_true, List.contains_iff_mem, or_assoc] at h1
    rcases h1 with h1
    · have h2 := List.all_eq_true.mp xo_21_c0 pc h1
      rw [h] at h2
      exact of_decide_eq_true h2
  · rw [show xo_21 pc = none from if_pos hl] at h; cases h
/-- X1_goToStart -/
def xo_22 (pc : Nat) : Option (Instr × Nat) := if 6 ≤ pc then none else if pc < 2 then (if pc < 1 then (if pc = 0 then some (.aload_n 0, 1) else none) else (if pc = 1 then some (.iconst 0, 1) else none)) else (if pc < 5 then (if pc = 2 then some (.putfield 25, 3) else none) else (if pc = 5 then some (.return_, 1) else none))
set_option maxRecDepth 100000 in
theorem xo_22_c0 : ([0, 1, 2, 5] : List Nat).all (fun pc => match xo_22 pc with | none => true | some r => decide (decode cX1_goToStart pc = .ok r)) = true := by decide +kernel
set_option maxRecDepth 100000 in
theorem xo_22_no : (List.range 6).all (fun pc => (xo_22 pc).isNone || (([0, 1, 2, 5] : List Nat).contains pc)) = true := by decide +kernel
theorem xo_22_top (pc : Nat) (h : 6 ≤ pc) : xo_22 pc = none := if_pos h
theorem xo_22_ok (pc : Nat) (r : Instr × Nat) (h : xo_22 pc = some r) : decode cX1_goToStart pc = .ok r := by
  rcases Nat.lt_or_ge pc 6 with hl | hl
  · have h1 := List.all_eq_true.mp xo_22_no pc (List.mem_range.mpr hl)
    rw [h] at h1
    simp only [Option.isNone_some, Bool.false_or, Bool.or_eq_true, List.contains_iff_mem, or_assoc] at h1
    rcases h1 with h1
    · have h2 := List.all_eq_true.mp xo_22_c0 pc h1
      rw [h] at h2
      exact of_decide_eq_true h2
  · rw [show xo_22 pc = none from if_pos hl] at h; cases h
/-- X3_characterAt -/
def xo_23 (pc : Nat) : Option (Instr × Nat) := if 24 ≤ pc then none else if pc < 13 then (if pc < 5 then (if pc < 1 then (if pc = 0 then some (.iconst 0, 1) else none) else (if pc < 2 then (if pc = 1 then some (.iload_n 1, 1) else none) else (if pc = 2 then some (.if_icmp .gt 20, 3) else none))) else (if pc < 7 then (if pc < 6 then (if pc = 5 then some (.iload_n 1, 1) else none) else (if pc = 6 then some (.aload_n 0, 1) else none)) else (if pc < 10 then (if pc = 7 then some (.getfield 19, 3) else none) else (if pc = 10 then some (.if_icmp .ge 12, 3) else none)))) else (if pc < 18 then (if pc < 14 then (if pc = 13 then some (.aload_n 0, 1) else none) else (if pc < 17 then (if pc = 14 then some (.getfield 9, 3) else none) else (if pc = 17 then some (.iload_n 1, 1) else none))) else (if pc < 22 then (if pc < 19 then (if pc = 18 then some (.caload, 1) else none) else (if pc = 19 then some (.goto 4, 3) else none)) else (if pc < 23 then (if pc = 22 then some (.iconst 0, 1) else none) else (if pc = 23 then some (.ireturn, 1) else none))))
set_option maxRecDepth 100000 in
theorem xo_23_c0 : ([0, 1, 2, 5, 6, 7, 10, 13, 14, 17, 18, 19, 22, 23] : List Nat).all (fun pc => match xo_23 pc with | none => true | some r => decide (decode cX3_characterAt pc = .ok r)) = true := by decide +kernel
set_option maxRecDepth 100000 in
theorem xo_23_no : (List.range 24).all (fun pc => (xo_23 pc).isNone || (([0, 1, 2, 5, 6, 7, 10, 13, 14, 17, 18, 19, 22, 23] : List Nat).contains pc)) = true := by decide +kernel
theorem xo_23_top (pc : Nat) (h : 24 ≤ pc) : xo_23 pc = none := if_pos h
theorem xo_23_ok (pc : Nat) (r : Instr × Nat) (h : xo_23 pc = some r) : decode cX3_characterAt pc = .ok r := by
  rcases Nat.lt_or_ge pc 24 with hl | hl
  · have h1 := List.all_eq_true.mp xo_23_no pc (List.mem_range.mpr hl)
    rw [h] at h1
    simp only [Option.isNone_some, Bool.false_or, Bool.or_eq_true, List.contains_iff_mem, or_assoc] at h1
    rcases h1 with h1
    · have h2 := List.all_eq_true.mp xo_23_c0 pc h1
      rw [h] at h2
      exact of_decide_eq_true h2
  · rw [show xo_23 pc = none from if_pos hl] at h; cases h
/-- X1_readFrom -/
def xo_24 (pc : Nat) : Option (Instr × Nat) := if 41 ≤ pc then none else if pc < 22 then (if pc < 12 then (if pc < 5 then (if pc < 1 then (if pc = 0 then some (.aload_n 0, 1) else none) else (if pc < 4 then (if pc = 1 then some (.getfield 12, 3) else none) else (if pc = 4 then some (.aload_n 0, 1) else none))) else (if pc < 8 then (if pc = 5 then some (.getfield 25, 3) else none) else (if pc < 11 then (if pc = 8 then some (.invokevirtual 53, 3) else none) else (if pc = 11 then some (.istore_n 3, 1) else none)))) else (if pc < 17 then (if pc < 13 then (if pc = 12 then some (.iload_n 3, 1) else none) else (if pc < 14 then (if pc = 13 then some (.iload_n 1, 1) else none) else (if pc = 14 then some (.if_icmp .lt 8, 3) else none))) else (if pc < 18 then (if pc = 17 then some (.iload_n 3, 1) else none) else (if pc < 19 then (if pc = 18 then some (.iload_n 2, 1) else none) else (if pc = 19 then some (.if_icmp .le 5, 3) else none))))) else (if pc < 30 then (if pc < 25 then (if pc < 23 then (if pc = 22 then some (.iconst 0, 1) else none) else (if pc < 24 then (if pc = 23 then some (.ireturn, 1) else none) else (if pc = 24 then some (.aload_n 0, 1) else none))) else (if pc < 26 then (if pc = 25 then some (.iload_n 3, 1) else none) else (if pc < 29 then (if pc = 26 then some (.putfield 43, 3) else none) else (if pc = 29 then some (.aload_n 0, 1) else none)))) else (if pc < 35 then (if pc < 31 then (if pc = 30 then some (.dup, 1) else none) else (if pc < 34 then (if pc = 31 then some (.getfield 25, 3) else none) else (if pc = 34 then some (.iconst 1, 1) else none))) else (if pc < 39 then (if pc < 36 then (if pc = 35 then some (.iadd, 1) else none) else (if pc = 36 then some (.putfield 25, 3) else none)) else (if pc < 40 then (if pc = 39 then some (.iconst 1, 1) else none) else (if pc = 40 then some (.ireturn, 1) else none)))))
set_option maxRecDepth 100000 in
theorem xo_24_c0 : ([0, 1, 4, 5, 8, 11, 12, 13, 14, 17, 18, 19, 22, 23, 24, 25, 26, 29, 30, 31, 34, 35, 36, 39, 40] : List Nat).all (fun pc => match xo_24 pc with | none => true | some r => decide (decode cX1_readFrom pc = .ok r)) = true := by decide +kernel
set_option maxRecDepth 100000 in
theorem xo_24_no : (List.range 41).all (fun pc => (xo_24 pc).isNone || (([0, 1, 4, 5, 8, 11, 12, 13, 14, 17, 18, 19, 22, 23, 24, 25, 26, 29, 30, 31, 34, 35, 36, 39, 40] : List Nat).contains pc)) = true := by decide +kernel
theorem xo_24_top (pc : Nat) (h : 41 ≤ pc) : xo_24 pc = none := if_pos h
theorem xo_24_ok (pc : Nat) (r : Instr × Nat) (h : xo_24 pc = some r) : decode cX1_readFrom pc = .ok r := by
  rcases Nat.lt_or_ge pc 41 with hl | hl
  · have h1 := List.all_eq_true.mp xo_24_no pc (List.mem_range.mpr hl)
    rw [h] at h1
    simp only [Option.isNone_some, Bool.false_or, Bool.or_eq_true, List.contains_iff_mem, or_assoc] at h1
    rcases h1 with h1
    · have h2 := List.all_eq_true.mp xo_24_c0 pc h1
      rw [h] at h2
      exact of_decide_eq_true h2
  · rw [show xo_24 pc = none from if_pos hl] at h; cases h
