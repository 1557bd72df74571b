/-! references, by number -/
theorem rf_at {a k v : Nat} (i : Nat) (h : tabR[i]? = some (a, k, v)) : gr Z0.1 a k = v := z0_r (a, k, v) (List.mem_of_getElem? h)
def PB : List Nat := [6, 41, 58, 75, 95, 244, 279, 296, 313, 334, 369, 386, 403, 424, 459, 476, 493]
set_option maxRecDepth 100000 in
theorem pb_of : ∀ b ∈ PB, gr Z0.1 b 4 = b + 1 ∧ gr Z0.1 b 5 = b + 2 ∧ gr Z0.1 b 6 = b + 3 ∧ gr Z0.1 b 7 = b + 4 ∧ gr Z0.1 b 8 = b + 5 ∧ gr Z0.1 b 9 = b + 6 ∧ gr Z0.1 b 10 = b + 7 ∧ gr Z0.1 b 11 = b + 8 ∧ gr Z0.1 b 12 = b + 9 := List.forall_mem_cons.mpr ⟨⟨rf_at 23 rfl, rf_at 24 rfl, rf_at 25 rfl, rf_at 26 rfl, rf_at 27 rfl, rf_at 28 rfl, rf_at 29 rfl, rf_at 30 rfl, rf_at 31 rfl⟩, List.forall_mem_cons.mpr ⟨⟨rf_at 56 rfl, rf_at 57 rfl, rf_at 58 rfl, rf_at 59 rfl, rf_at 60 rfl, rf_at 61 rfl, rf_at 62 rfl, rf_at 63 rfl, rf_at 64 rfl⟩, List.forall_mem_cons.mpr ⟨⟨rf_at 71 rfl, rf_at 72 rfl, rf_at 73 rfl, rf_at 74 rfl, rf_at 75 rfl, rf_at 76 rfl, rf_at 77 rfl, rf_at 78 rfl, rf_at 79 rfl⟩, List.forall_mem_cons.mpr ⟨⟨rf_at 86 rfl, rf_at 87 rfl, rf_at 88 rfl, rf_at 89 rfl, rf_at 90 rfl, rf_at 91 rfl, rf_at 92 rfl, rf_at 93 rfl, rf_at 94 rfl⟩, List.forall_mem_cons.mpr ⟨⟨rf_at 105 rfl, rf_at 106 rfl, rf_at 107 rfl, rf_at 108 rfl, rf_at 109 rfl, rf_at 110 rfl, rf_at 111 rfl, rf_at 112 rfl, rf_at 113 rfl⟩, List.forall_mem_cons.mpr ⟨⟨rf_at 283 rfl, rf_at 284 rfl, rf_at 285 rfl, rf_at 286 rfl, rf_at 287 rfl, rf_at 288 rfl, rf_at 289 rfl, rf_at 290 rfl, rf_at 291 rfl⟩, List.forall_mem_cons.mpr ⟨⟨rf_at 316 rfl, rf_at 317 rfl, rf_at 318 rfl, rf_at 319 rfl, rf_at 320 rfl, rf_at 321 rfl, rf_at 322 rfl, rf_at 323 rfl, rf_at 324 rfl⟩, List.forall_mem_cons.mpr ⟨⟨rf_at 331 rfl, rf_at 332 rfl, rf_at 333 rfl, rf_at 334 rfl, rf_at 335 rfl, rf_at 336 rfl, rf_at 337 rfl, rf_at 338 rfl, rf_at 339 rfl⟩, List.forall_mem_cons.mpr ⟨⟨rf_at 346 rfl, rf_at 347 rfl, rf_at 348 rfl, rf_at 349 rfl, rf_at 350 rfl, rf_at 351 rfl, rf_at 352 rfl, rf_at 353 rfl, rf_at 354 rfl⟩, List.forall_mem_cons.mpr ⟨⟨rf_at 374 rfl, rf_at 375 rfl, rf_at 376 rfl, rf_at 377 rfl, rf_at 378 rfl, rf_at 379 rfl, rf_at 380 rfl, rf_at 381 rfl, rf_at 382 rfl⟩, List.forall_mem_cons.mpr ⟨⟨rf_at 407 rfl, rf_at 408 rfl, rf_at 409 rfl, rf_at 410 rfl, rf_at 411 rfl, rf_at 412 rfl, rf_at 413 rfl, rf_at 414 rfl, rf_at 415 rfl⟩, List.forall_mem_cons.mpr ⟨⟨rf_at 422 rfl, rf_at 423 rfl, rf_at 424 rfl, rf_at 425 rfl, rf_at 426 rfl, rf_at 427 rfl, rf_at 428 rfl, rf_at 429 rfl, rf_at 430 rfl⟩, List.forall_mem_cons.mpr ⟨⟨rf_at 437 rfl, rf_at 438 rfl, rf_at 439 rfl, rf_at 440 rfl, rf_at 441 rfl, rf_at 442 rfl, rf_at 443 rfl, rf_at 444 rfl, rf_at 445 rfl⟩, List.forall_mem_cons.mpr ⟨⟨rf_at 465 rfl, rf_at 466 rfl, rf_at 467 rfl, rf_at 468 rfl, rf_at 469 rfl, rf_at 470 rfl, rf_at 471 rfl, rf_at 472 rfl, rf_at 473 rfl⟩, List.forall_mem_cons.mpr ⟨⟨rf_at 498 rfl, rf_at 499 rfl, rf_at 500 rfl, rf_at 501 rfl, rf_at 502 rfl, rf_at 503 rfl, rf_at 504 rfl, rf_at 505 rfl, rf_at 506 rfl⟩, List.forall_mem_cons.mpr ⟨⟨rf_at 513 rfl, rf_at 514 rfl, rf_at 515 rfl, rf_at 516 rfl, rf_at 517 rfl, rf_at 518 rfl, rf_at 519 rfl, rf_at 520 rfl, rf_at 521 rfl⟩, List.forall_mem_cons.mpr ⟨⟨rf_at 528 rfl, rf_at 529 rfl, rf_at 530 rfl, rf_at 531 rfl, rf_at 532 rfl, rf_at 533 rfl, rf_at 534 rfl, rf_at 535 rfl, rf_at 536 rfl⟩, fun _ h => absurd h List.not_mem_nil⟩⟩⟩⟩⟩⟩⟩⟩⟩⟩⟩⟩⟩⟩⟩⟩⟩
theorem pb_s : ∀ b ∈ PB, gs Z0.1 b = (0, 4) := by
  have h : ∀ b ∈ PB, b < 547 ∧ tabS.getD b (99, 0) = (0, 4) := by decide +kernel
  intro b hb
  rw [z0_s b (h b hb).1, (h b hb).2]
def LB : List Nat := [16, 51, 68, 85, 105, 254, 289, 306, 323, 344, 379, 396, 413, 434, 469, 486, 503]
set_option maxRecDepth 100000 in
theorem lb_of : ∀ b ∈ LB, gr Z0.1 b 1 = b + 1 ∧ gr Z0.1 b 2 = b + 2 ∧ gr Z0.1 b 3 = b + 3 ∧ gr Z0.1 b 4 = b + 4 ∧ gr Z0.1 b 5 = b + 5 ∧ gr Z0.1 b 6 = b + 6 := List.forall_mem_cons.mpr ⟨⟨rf_at 32 rfl, rf_at 33 rfl, rf_at 34 rfl, rf_at 35 rfl, rf_at 36 rfl, rf_at 37 rfl⟩, List.forall_mem_cons.mpr ⟨⟨rf_at 65 rfl, rf_at 66 rfl, rf_at 67 rfl, rf_at 68 rfl, rf_at 69 rfl, rf_at 70 rfl⟩, List.forall_mem_cons.mpr ⟨⟨rf_at 80 rfl, rf_at 81 rfl, rf_at 82 rfl, rf_at 83 rfl, rf_at 84 rfl, rf_at 85 rfl⟩, List.forall_mem_cons.mpr ⟨⟨rf_at 95 rfl, rf_at 96 rfl, rf_at 97 rfl, rf_at 98 rfl, rf_at 99 rfl, rf_at 100 rfl⟩, List.forall_mem_cons.mpr ⟨⟨rf_at 114 rfl, rf_at 115 rfl, rf_at 116 rfl, rf_at 117 rfl, rf_at 118 rfl, rf_at 119 rfl⟩, List.forall_mem_cons.mpr ⟨⟨rf_at 292 rfl, rf_at 293 rfl, rf_at 294 rfl, rf_at 295 rfl, rf_at 296 rfl, rf_at 297 rfl⟩, List.forall_mem_cons.mpr ⟨⟨rf_at 325 rfl, rf_at 326 rfl, rf_at 327 rfl, rf_at 328 rfl, rf_at 329 rfl, rf_at 330 rfl⟩, List.forall_mem_cons.mpr ⟨⟨rf_at 340 rfl, rf_at 341 rfl, rf_at 342 rfl, rf_at 343 rfl, rf_at 344 rfl, rf_at 345 rfl⟩, List.forall_mem_cons.mpr ⟨⟨rf_at 355 rfl, rf_at 356 rfl, rf_at 357 rfl, rf_at 358 rfl, rf_at 359 rfl, rf_at 360 rfl⟩, List.forall_mem_cons.mpr ⟨⟨rf_at 383 rfl, rf_at 384 rfl, rf_at 385 rfl, rf_at 386 rfl, rf_at 387 rfl, rf_at 388 rfl⟩, List.forall_mem_cons.mpr ⟨⟨rf_at 416 rfl, rf_at 417 rfl, rf_at 418 rfl, rf_at 419 rfl, rf_at 420 rfl, rf_at 421 rfl⟩, List.forall_mem_cons.mpr ⟨⟨rf_at 431 rfl, rf_at 432 rfl, rf_at 433 rfl, rf_at 434 rfl, rf_at 435 rfl, rf_at 436 rfl⟩, List.forall_mem_cons.mpr ⟨⟨rf_at 446 rfl, rf_at 447 rfl, rf_at 448 rfl, rf_at 449 rfl, rf_at 450 rfl, rf_at 451 rfl⟩, List.forall_mem_cons.mpr ⟨⟨rf_at 474 rfl, rf_at 475 rfl, rf_at 476 rfl, rf_at 477 rfl, rf_at 478 rfl, rf_at 479 rfl⟩, List.forall_mem_cons.mpr ⟨⟨rf_at 507 rfl, rf_at 508 rfl, rf_at 509 rfl, rf_at 510 rfl, rf_at 511 rfl, rf_at 512 rfl⟩, List.forall_mem_cons.mpr ⟨⟨rf_at 522 rfl, rf_at 523 rfl, rf_at 524 rfl, rf_at 525 rfl, rf_at 526 rfl, rf_at 527 rfl⟩, List.forall_mem_cons.mpr ⟨⟨rf_at 537 rfl, rf_at 538 rfl, rf_at 539 rfl, rf_at 540 rfl, rf_at 541 rfl, rf_at 542 rfl⟩, fun _ h => absurd h List.not_mem_nil⟩⟩⟩⟩⟩⟩⟩⟩⟩⟩⟩⟩⟩⟩⟩⟩⟩
theorem lb_s : ∀ b ∈ LB, gs Z0.1 b = (0, 2) := by
  have h : ∀ b ∈ LB, b < 547 ∧ tabS.getD b (99, 0) = (0, 2) := by decide +kernel
  intro b hb
  rw [z0_s b (h b hb).1, (h b hb).2]
def WB : List Nat := [23, 112, 130, 142, 154, 166, 178, 190, 202, 214, 226, 261, 351, 441]
set_option maxRecDepth 100000 in
theorem wb_of : ∀ b ∈ WB, gr Z0.1 b 9 = b + 1 ∧ gr Z0.1 b 10 = b + 2 ∧ gr Z0.1 b 11 = b + 3 ∧ gr Z0.1 b 12 = b + 4 ∧ gr Z0.1 b 13 = b + 5 ∧ gr Z0.1 b 14 = b + 6 ∧ gr Z0.1 b 15 = b + 7 ∧ gr Z0.1 b 16 = b + 8 ∧ gr Z0.1 b 17 = b + 9 ∧ gr Z0.1 b 18 = b + 10 ∧ gr Z0.1 b 19 = b + 11 := List.forall_mem_cons.mpr ⟨⟨rf_at 40 rfl, rf_at 41 rfl, rf_at 42 rfl, rf_at 43 rfl, rf_at 44 rfl, rf_at 45 rfl, rf_at 46 rfl, rf_at 47 rfl, rf_at 48 rfl, rf_at 49 rfl, rf_at 50 rfl⟩, List.forall_mem_cons.mpr ⟨⟨rf_at 122 rfl, rf_at 123 rfl, rf_at 124 rfl, rf_at 125 rfl, rf_at 126 rfl, rf_at 127 rfl, rf_at 128 rfl, rf_at 129 rfl, rf_at 130 rfl, rf_at 131 rfl, rf_at 132 rfl⟩, List.forall_mem_cons.mpr ⟨⟨rf_at 151 rfl, rf_at 152 rfl, rf_at 153 rfl, rf_at 154 rfl, rf_at 155 rfl, rf_at 156 rfl, rf_at 157 rfl, rf_at 158 rfl, rf_at 159 rfl, rf_at 160 rfl, rf_at 161 rfl⟩, List.forall_mem_cons.mpr ⟨⟨rf_at 164 rfl, rf_at 165 rfl, rf_at 166 rfl, rf_at 167 rfl, rf_at 168 rfl, rf_at 169 rfl, rf_at 170 rfl, rf_at 171 rfl, rf_at 172 rfl, rf_at 173 rfl, rf_at 174 rfl⟩, List.forall_mem_cons.mpr ⟨⟨rf_at 177 rfl, rf_at 178 rfl, rf_at 179 rfl, rf_at 180 rfl, rf_at 181 rfl, rf_at 182 rfl, rf_at 183 rfl, rf_at 184 rfl, rf_at 185 rfl, rf_at 186 rfl, rf_at 187 rfl⟩, List.forall_mem_cons.mpr ⟨⟨rf_at 190 rfl, rf_at 191 rfl, rf_at 192 rfl, rf_at 193 rfl, rf_at 194 rfl, rf_at 195 rfl, rf_at 196 rfl, rf_at 197 rfl, rf_at 198 rfl, rf_at 199 rfl, rf_at 200 rfl⟩, List.forall_mem_cons.mpr ⟨⟨rf_at 203 rfl, rf_at 204 rfl, rf_at 205 rfl, rf_at 206 rfl, rf_at 207 rfl, rf_at 208 rfl, rf_at 209 rfl, rf_at 210 rfl, rf_at 211 rfl, rf_at 212 rfl, rf_at 213 rfl⟩, List.forall_mem_cons.mpr ⟨⟨rf_at 216 rfl, rf_at 217 rfl, rf_at 218 rfl, rf_at 219 rfl, rf_at 220 rfl, rf_at 221 rfl, rf_at 222 rfl, rf_at 223 rfl, rf_at 224 rfl, rf_at 225 rfl, rf_at 226 rfl⟩, List.forall_mem_cons.mpr ⟨⟨rf_at 229 rfl, rf_at 230 rfl, rf_at 231 rfl, rf_at 232 rfl, rf_at 233 rfl, rf_at 234 rfl, rf_at 235 rfl, rf_at 236 rfl, rf_at 237 rfl, rf_at 238 rfl, rf_at 239 rfl⟩, List.forall_mem_cons.mpr ⟨⟨rf_at 242 rfl, rf_at 243 rfl, rf_at 244 rfl, rf_at 245 rfl, rf_at 246 rfl, rf_at 247 rfl, rf_at 248 rfl, rf_at 249 rfl, rf_at 250 rfl, rf_at 251 rfl, rf_at 252 rfl⟩, List.forall_mem_cons.mpr ⟨⟨rf_at 255 rfl, rf_at 256 rfl, rf_at 257 rfl, rf_at 258 rfl, rf_at 259 rfl, rf_at 260 rfl, rf_at 261 rfl, rf_at 262 rfl, rf_at 263 rfl, rf_at 264 rfl, rf_at 265 rfl⟩, List.forall_mem_cons.mpr ⟨⟨rf_at 300 rfl, rf_at 301 rfl, rf_at 302 rfl, rf_at 303 rfl, rf_at 304 rfl, rf_at 305 rfl, rf_at 306 rfl, rf_at 307 rfl, rf_at 308 rfl, rf_at 309 rfl, rf_at 310 rfl⟩, List.forall_mem_cons.mpr ⟨⟨rf_at 391 rfl, rf_at 392 rfl, rf_at 393 rfl, rf_at 394 rfl, rf_at 395 rfl, rf_at 396 rfl, rf_at 397 rfl, rf_at 398 rfl, rf_at 399 rfl, rf_at 400 rfl, rf_at 401 rfl⟩, List.forall_mem_cons.mpr ⟨⟨rf_at 482 rfl, rf_at 483 rfl, rf_at 484 rfl, rf_at 485 rfl, rf_at 486 rfl, rf_at 487 rfl, rf_at 488 rfl, rf_at 489 rfl, rf_at 490 rfl, rf_at 491 rfl, rf_at 492 rfl⟩, fun _ h => absurd h List.not_mem_nil⟩⟩⟩⟩⟩⟩⟩⟩⟩⟩⟩⟩⟩⟩
theorem wb_s : ∀ b ∈ WB, gs Z0.1 b = (0, 8) := by
  have h : ∀ b ∈ WB, b < 547 ∧ tabS.getD b (99, 0) = (0, 8) := by decide +kernel
  intro b hb
  rw [z0_s b (h b hb).1, (h b hb).2]
def FB : List Nat := [35, 273, 363, 453]
set_option maxRecDepth 100000 in
theorem fb_of : ∀ b ∈ FB, gr Z0.1 b 0 = b + 1 ∧ gr Z0.1 b 1 = b + 2 ∧ gr Z0.1 b 2 = b + 3 ∧ gr Z0.1 b 3 = b + 4 ∧ gr Z0.1 b 4 = b + 5 := List.forall_mem_cons.mpr ⟨⟨rf_at 51 rfl, rf_at 52 rfl, rf_at 53 rfl, rf_at 54 rfl, rf_at 55 rfl⟩, List.forall_mem_cons.mpr ⟨⟨rf_at 311 rfl, rf_at 312 rfl, rf_at 313 rfl, rf_at 314 rfl, rf_at 315 rfl⟩, List.forall_mem_cons.mpr ⟨⟨rf_at 402 rfl, rf_at 403 rfl, rf_at 404 rfl, rf_at 405 rfl, rf_at 406 rfl⟩, List.forall_mem_cons.mpr ⟨⟨rf_at 493 rfl, rf_at 494 rfl, rf_at 495 rfl, rf_at 496 rfl, rf_at 497 rfl⟩, fun _ h => absurd h List.not_mem_nil⟩⟩⟩⟩
theorem fb_s : ∀ b ∈ FB, gs Z0.1 b = (0, 1) := by
  have h : ∀ b ∈ FB, b < 547 ∧ tabS.getD b (99, 0) = (0, 1) := by decide +kernel
  intro b hb
  rw [z0_s b (h b hb).1, (h b hb).2]
def TB : List Nat := [2, 240, 330, 420]
set_option maxRecDepth 100000 in
theorem tb_of : ∀ b ∈ TB, gr Z0.1 b 0 = b + 1 ∧ gr Z0.1 b 4 = b + 2 ∧ gr Z0.1 b 6 = b + 3 ∧ gr Z0.1 b 8 = b + 4 ∧ gr Z0.1 b 9 = b + 14 ∧ gr Z0.1 b 10 = b + 21 ∧ gr Z0.1 b 12 = b + 33 := List.forall_mem_cons.mpr ⟨⟨rf_at 10 rfl, rf_at 11 rfl, rf_at 12 rfl, rf_at 13 rfl, rf_at 14 rfl, rf_at 15 rfl, rf_at 16 rfl⟩, List.forall_mem_cons.mpr ⟨⟨rf_at 270 rfl, rf_at 271 rfl, rf_at 272 rfl, rf_at 273 rfl, rf_at 274 rfl, rf_at 275 rfl, rf_at 276 rfl⟩, List.forall_mem_cons.mpr ⟨⟨rf_at 361 rfl, rf_at 362 rfl, rf_at 363 rfl, rf_at 364 rfl, rf_at 365 rfl, rf_at 366 rfl, rf_at 367 rfl⟩, List.forall_mem_cons.mpr ⟨⟨rf_at 452 rfl, rf_at 453 rfl, rf_at 454 rfl, rf_at 455 rfl, rf_at 456 rfl, rf_at 457 rfl, rf_at 458 rfl⟩, fun _ h => absurd h List.not_mem_nil⟩⟩⟩⟩
theorem tb_s : ∀ b ∈ TB, gs Z0.1 b = (0, 7) := by
  have h : ∀ b ∈ TB, b < 547 ∧ tabS.getD b (99, 0) = (0, 7) := by decide +kernel
  intro b hb
  rw [z0_s b (h b hb).1, (h b hb).2]
set_option maxRecDepth 100000 in
theorem tb_pas : ∀ b ∈ TB, gr Z0.1 (b + 2) 0 = b + 39 ∧ gr Z0.1 (b + 2) 1 = b + 56 ∧ gr Z0.1 (b + 2) 2 = b + 73 := List.forall_mem_cons.mpr ⟨⟨rf_at 17 rfl, rf_at 18 rfl, rf_at 19 rfl⟩, List.forall_mem_cons.mpr ⟨⟨rf_at 277 rfl, rf_at 278 rfl, rf_at 279 rfl⟩, List.forall_mem_cons.mpr ⟨⟨rf_at 368 rfl, rf_at 369 rfl, rf_at 370 rfl⟩, List.forall_mem_cons.mpr ⟨⟨rf_at 459 rfl, rf_at 460 rfl, rf_at 461 rfl⟩, fun _ h => absurd h List.not_mem_nil⟩⟩⟩⟩
set_option maxRecDepth 100000 in
theorem tb_lws : ∀ b ∈ TB, gr Z0.1 (b + 3) 0 = b + 49 ∧ gr Z0.1 (b + 3) 1 = b + 66 ∧ gr Z0.1 (b + 3) 2 = b + 83 := List.forall_mem_cons.mpr ⟨⟨rf_at 20 rfl, rf_at 21 rfl, rf_at 22 rfl⟩, List.forall_mem_cons.mpr ⟨⟨rf_at 280 rfl, rf_at 281 rfl, rf_at 282 rfl⟩, List.forall_mem_cons.mpr ⟨⟨rf_at 371 rfl, rf_at 372 rfl, rf_at 373 rfl⟩, List.forall_mem_cons.mpr ⟨⟨rf_at 462 rfl, rf_at 463 rfl, rf_at 464 rfl⟩, fun _ h => absurd h List.not_mem_nil⟩⟩⟩⟩
set_option maxRecDepth 100000 in
theorem r_23_0 : gr Z0.1 23 0 = 6 := rf_at 38 rfl
set_option maxRecDepth 100000 in
theorem r_23_1 : gr Z0.1 23 1 = 16 := rf_at 39 rfl
set_option maxRecDepth 100000 in
theorem r_112_0 : gr Z0.1 112 0 = 95 := rf_at 120 rfl
set_option maxRecDepth 100000 in
theorem r_112_1 : gr Z0.1 112 1 = 105 := rf_at 121 rfl
set_option maxRecDepth 100000 in
theorem r_130_0 : gr Z0.1 130 0 = 95 := rf_at 149 rfl
set_option maxRecDepth 100000 in
theorem r_130_1 : gr Z0.1 130 1 = 105 := rf_at 150 rfl
set_option maxRecDepth 100000 in
theorem r_142_0 : gr Z0.1 142 0 = 95 := rf_at 162 rfl
set_option maxRecDepth 100000 in
theorem r_142_1 : gr Z0.1 142 1 = 105 := rf_at 163 rfl
set_option maxRecDepth 100000 in
theorem r_154_0 : gr Z0.1 154 0 = 95 := rf_at 175 rfl
set_option maxRecDepth 100000 in
theorem r_154_1 : gr Z0.1 154 1 = 105 := rf_at 176 rfl
set_option maxRecDepth 100000 in
theorem r_166_0 : gr Z0.1 166 0 = 95 := rf_at 188 rfl
set_option maxRecDepth 100000 in
theorem r_166_1 : gr Z0.1 166 1 = 105 := rf_at 189 rfl
set_option maxRecDepth 100000 in
theorem r_178_0 : gr Z0.1 178 0 = 95 := rf_at 201 rfl
set_option maxRecDepth 100000 in
theorem r_178_1 : gr Z0.1 178 1 = 105 := rf_at 202 rfl
set_option maxRecDepth 100000 in
theorem r_190_0 : gr Z0.1 190 0 = 95 := rf_at 214 rfl
set_option maxRecDepth 100000 in
theorem r_190_1 : gr Z0.1 190 1 = 105 := rf_at 215 rfl
set_option maxRecDepth 100000 in
theorem r_202_0 : gr Z0.1 202 0 = 95 := rf_at 227 rfl
set_option maxRecDepth 100000 in
theorem r_202_1 : gr Z0.1 202 1 = 105 := rf_at 228 rfl
set_option maxRecDepth 100000 in
theorem r_214_0 : gr Z0.1 214 0 = 95 := rf_at 240 rfl
set_option maxRecDepth 100000 in
theorem r_214_1 : gr Z0.1 214 1 = 105 := rf_at 241 rfl
set_option maxRecDepth 100000 in
theorem r_226_0 : gr Z0.1 226 0 = 95 := rf_at 253 rfl
set_option maxRecDepth 100000 in
theorem r_226_1 : gr Z0.1 226 1 = 105 := rf_at 254 rfl
set_option maxRecDepth 100000 in
theorem r_261_0 : gr Z0.1 261 0 = 244 := rf_at 298 rfl
set_option maxRecDepth 100000 in
theorem r_261_1 : gr Z0.1 261 1 = 254 := rf_at 299 rfl
set_option maxRecDepth 100000 in
theorem r_351_0 : gr Z0.1 351 0 = 334 := rf_at 389 rfl
set_option maxRecDepth 100000 in
theorem r_351_1 : gr Z0.1 351 1 = 344 := rf_at 390 rfl
set_option maxRecDepth 100000 in
theorem r_441_0 : gr Z0.1 441 0 = 424 := rf_at 480 rfl
set_option maxRecDepth 100000 in
theorem r_441_1 : gr Z0.1 441 1 = 434 := rf_at 481 rfl
set_option maxRecDepth 100000 in
theorem r_1_0 : gr Z0.1 1 0 = 2 := rf_at 0 rfl
set_option maxRecDepth 100000 in
theorem r_1_1 : gr Z0.1 1 1 = 92 := rf_at 1 rfl
set_option maxRecDepth 100000 in
theorem r_1_2 : gr Z0.1 1 2 = 93 := rf_at 2 rfl
set_option maxRecDepth 100000 in
theorem r_1_3 : gr Z0.1 1 3 = 94 := rf_at 3 rfl
set_option maxRecDepth 100000 in
theorem r_1_4 : gr Z0.1 1 4 = 95 := rf_at 4 rfl
set_option maxRecDepth 100000 in
theorem r_1_5 : gr Z0.1 1 5 = 105 := rf_at 5 rfl
set_option maxRecDepth 100000 in
theorem r_1_6 : gr Z0.1 1 6 = 112 := rf_at 6 rfl
set_option maxRecDepth 100000 in
theorem r_1_7 : gr Z0.1 1 7 = 124 := rf_at 7 rfl
set_option maxRecDepth 100000 in
theorem r_1_8 : gr Z0.1 1 8 = 238 := rf_at 8 rfl
set_option maxRecDepth 100000 in
theorem r_1_9 : gr Z0.1 1 9 = 239 := rf_at 9 rfl
set_option maxRecDepth 100000 in
theorem r_94_0 : gr Z0.1 94 0 = 3 := rf_at 104 rfl
set_option maxRecDepth 100000 in
theorem r_124_0 : gr Z0.1 124 0 = 95 := rf_at 133 rfl
set_option maxRecDepth 100000 in
theorem r_124_1 : gr Z0.1 124 1 = 105 := rf_at 134 rfl
set_option maxRecDepth 100000 in
theorem r_124_2 : gr Z0.1 124 2 = 125 := rf_at 135 rfl
set_option maxRecDepth 100000 in
theorem r_124_3 : gr Z0.1 124 3 = 126 := rf_at 136 rfl
set_option maxRecDepth 100000 in
theorem r_124_4 : gr Z0.1 124 4 = 127 := rf_at 137 rfl
set_option maxRecDepth 100000 in
theorem r_124_5 : gr Z0.1 124 5 = 128 := rf_at 138 rfl
set_option maxRecDepth 100000 in
theorem r_124_6 : gr Z0.1 124 6 = 129 := rf_at 139 rfl
set_option maxRecDepth 100000 in
theorem r_238_0 : gr Z0.1 238 0 = 94 := rf_at 266 rfl
set_option maxRecDepth 100000 in
theorem r_238_1 : gr Z0.1 238 1 = 95 := rf_at 267 rfl
set_option maxRecDepth 100000 in
theorem r_239_0 : gr Z0.1 239 0 = 94 := rf_at 268 rfl
set_option maxRecDepth 100000 in
theorem r_239_1 : gr Z0.1 239 1 = 105 := rf_at 269 rfl
set_option maxRecDepth 100000 in
theorem r_510_1 : gr Z0.1 510 1 = 511 := rf_at 543 rfl
set_option maxRecDepth 100000 in
theorem r_510_2 : gr Z0.1 510 2 = 512 := rf_at 544 rfl
set_option maxRecDepth 100000 in
theorem r_510_3 : gr Z0.1 510 3 = 513 := rf_at 545 rfl
set_option maxRecDepth 100000 in
theorem r_510_4 : gr Z0.1 510 4 = 514 := rf_at 546 rfl
set_option maxRecDepth 100000 in
theorem r_510_5 : gr Z0.1 510 5 = 515 := rf_at 547 rfl
set_option maxRecDepth 100000 in
theorem r_510_6 : gr Z0.1 510 6 = 516 := rf_at 548 rfl
set_option maxRecDepth 100000 in
theorem r_510_7 : gr Z0.1 510 7 = 517 := rf_at 549 rfl
set_option maxRecDepth 100000 in
theorem r_510_8 : gr Z0.1 510 8 = 518 := rf_at 550 rfl
set_option maxRecDepth 100000 in
theorem r_510_9 : gr Z0.1 510 9 = 519 := rf_at 551 rfl
set_option maxRecDepth 100000 in
theorem r_510_10 : gr Z0.1 510 10 = 520 := rf_at 552 rfl
set_option maxRecDepth 100000 in
theorem r_510_11 : gr Z0.1 510 11 = 521 := rf_at 553 rfl
set_option maxRecDepth 100000 in
theorem r_510_12 : gr Z0.1 510 12 = 522 := rf_at 554 rfl
set_option maxRecDepth 100000 in
theorem r_510_13 : gr Z0.1 510 13 = 523 := rf_at 555 rfl
set_option maxRecDepth 100000 in
theorem r_510_14 : gr Z0.1 510 14 = 524 := rf_at 556 rfl
set_option maxRecDepth 100000 in
theorem r_510_15 : gr Z0.1 510 15 = 525 := rf_at 557 rfl
set_option maxRecDepth 100000 in
theorem r_510_16 : gr Z0.1 510 16 = 526 := rf_at 558 rfl
set_option maxRecDepth 100000 in
theorem r_510_17 : gr Z0.1 510 17 = 527 := rf_at 559 rfl
set_option maxRecDepth 100000 in
theorem r_510_33 : gr Z0.1 510 33 = 528 := rf_at 560 rfl
set_option maxRecDepth 100000 in
theorem r_510_34 : gr Z0.1 510 34 = 529 := rf_at 561 rfl
set_option maxRecDepth 100000 in
theorem r_510_38 : gr Z0.1 510 38 = 530 := rf_at 562 rfl
set_option maxRecDepth 100000 in
theorem r_510_39 : gr Z0.1 510 39 = 531 := rf_at 563 rfl
set_option maxRecDepth 100000 in
theorem r_510_40 : gr Z0.1 510 40 = 532 := rf_at 564 rfl
set_option maxRecDepth 100000 in
theorem r_510_41 : gr Z0.1 510 41 = 533 := rf_at 565 rfl
set_option maxRecDepth 100000 in
theorem r_510_43 : gr Z0.1 510 43 = 534 := rf_at 566 rfl
set_option maxRecDepth 100000 in
theorem r_510_44 : gr Z0.1 510 44 = 535 := rf_at 567 rfl
set_option maxRecDepth 100000 in
theorem r_510_48 : gr Z0.1 510 48 = 536 := rf_at 568 rfl
set_option maxRecDepth 100000 in
theorem r_510_49 : gr Z0.1 510 49 = 537 := rf_at 569 rfl
set_option maxRecDepth 100000 in
theorem r_510_50 : gr Z0.1 510 50 = 538 := rf_at 570 rfl
set_option maxRecDepth 100000 in
theorem r_510_51 : gr Z0.1 510 51 = 539 := rf_at 571 rfl
set_option maxRecDepth 100000 in
theorem r_510_52 : gr Z0.1 510 52 = 540 := rf_at 572 rfl
set_option maxRecDepth 100000 in
theorem r_510_54 : gr Z0.1 510 54 = 541 := rf_at 573 rfl
set_option maxRecDepth 100000 in
theorem r_510_55 : gr Z0.1 510 55 = 542 := rf_at 574 rfl
set_option maxRecDepth 100000 in
theorem r_510_56 : gr Z0.1 510 56 = 543 := rf_at 575 rfl
set_option maxRecDepth 100000 in
theorem r_510_57 : gr Z0.1 510 57 = 544 := rf_at 576 rfl
set_option maxRecDepth 100000 in
theorem r_510_59 : gr Z0.1 510 59 = 545 := rf_at 577 rfl
set_option maxRecDepth 100000 in
theorem r_510_60 : gr Z0.1 510 60 = 546 := rf_at 578 rfl
set_option maxRecDepth 100000 in
theorem r_92_0 : gr Z0.1 92 0 = 240 := rf_at 101 rfl
set_option maxRecDepth 100000 in
theorem r_92_1 : gr Z0.1 92 1 = 330 := rf_at 102 rfl
set_option maxRecDepth 100000 in
theorem r_92_2 : gr Z0.1 92 2 = 420 := rf_at 103 rfl
set_option maxRecDepth 100000 in
theorem r_125_0 : gr Z0.1 125 0 = 130 := rf_at 140 rfl
set_option maxRecDepth 100000 in
theorem r_125_1 : gr Z0.1 125 1 = 142 := rf_at 141 rfl
set_option maxRecDepth 100000 in
theorem r_125_2 : gr Z0.1 125 2 = 154 := rf_at 142 rfl
set_option maxRecDepth 100000 in
theorem r_125_3 : gr Z0.1 125 3 = 166 := rf_at 143 rfl
set_option maxRecDepth 100000 in
theorem r_125_4 : gr Z0.1 125 4 = 178 := rf_at 144 rfl
set_option maxRecDepth 100000 in
theorem r_125_5 : gr Z0.1 125 5 = 190 := rf_at 145 rfl
set_option maxRecDepth 100000 in
theorem r_125_6 : gr Z0.1 125 6 = 202 := rf_at 146 rfl
set_option maxRecDepth 100000 in
theorem r_125_7 : gr Z0.1 125 7 = 214 := rf_at 147 rfl
set_option maxRecDepth 100000 in
theorem r_125_8 : gr Z0.1 125 8 = 226 := rf_at 148 rfl
