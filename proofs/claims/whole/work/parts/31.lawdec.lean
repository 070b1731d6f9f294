theorem dL_law__0 : decode cL_law_ 0 = .ok (.new 8, 3) := by decide +kernel
theorem dL_law__3 : decode cL_law_ 3 = .ok (.dup, 1) := by decide +kernel
theorem dL_law__4 : decode cL_law_ 4 = .ok (.invokespecial 127, 3) := by decide +kernel
theorem dL_law__7 : decode cL_law_ 7 = .ok (.astore_n 1, 1) := by decide +kernel
theorem dL_law__8 : decode cL_law_ 8 = .ok (.new 128, 3) := by decide +kernel
theorem dL_law__11 : decode cL_law_ 11 = .ok (.dup, 1) := by decide +kernel
theorem dL_law__12 : decode cL_law_ 12 = .ok (.invokespecial 130, 3) := by decide +kernel
theorem dL_law__15 : decode cL_law_ 15 = .ok (.astore_n 2, 1) := by decide +kernel
theorem dL_law__16 : decode cL_law_ 16 = .ok (.iconst 1, 1) := by decide +kernel
theorem dL_law__17 : decode cL_law_ 17 = .ok (.newarray .long, 2) := by decide +kernel
theorem dL_law__19 : decode cL_law_ 19 = .ok (.astore_n 3, 1) := by decide +kernel
theorem dL_law__20 : decode cL_law_ 20 = .ok (.iconst 0, 1) := by decide +kernel
theorem dL_law__21 : decode cL_law_ 21 = .ok (.istore 4, 2) := by decide +kernel
theorem dL_law__23 : decode cL_law_ 23 = .ok (.iload 4, 2) := by decide +kernel
theorem dL_law__25 : decode cL_law_ 25 = .ok (.aload_n 0, 1) := by decide +kernel
theorem dL_law__26 : decode cL_law_ 26 = .ok (.arraylength, 1) := by decide +kernel
theorem dL_law__27 : decode cL_law_ 27 = .ok (.bipush 6, 2) := by decide +kernel
theorem dL_law__29 : decode cL_law_ 29 = .ok (.isub, 1) := by decide +kernel
theorem dL_law__30 : decode cL_law_ 30 = .ok (.if_icmp .gt 2717, 3) := by decide +kernel
theorem dL_law__33 : decode cL_law_ 33 = .ok (.aload_n 0, 1) := by decide +kernel
theorem dL_law__34 : decode cL_law_ 34 = .ok (.iload 4, 2) := by decide +kernel
theorem dL_law__36 : decode cL_law_ 36 = .ok (.iaload, 1) := by decide +kernel
theorem dL_law__37 : decode cL_law_ 37 = .ok (.bipush 63, 2) := by decide +kernel
theorem dL_law__39 : decode cL_law_ 39 = .ok (.iand, 1) := by decide +kernel
theorem dL_law__40 : decode cL_law_ 40 = .ok (.tableswitch 2701 0 40 #[180, 253, 278, 338, 394, 469, 561, 597, 641, 654, 746, 814, 837, 893, 973, 1065, 1133, 1193, 1241, 1297, 1310, 1378, 1458, 1514, 1582, 1690, 1774, 1882, 1950, 2042, 2122, 2213, 2288, 2301, 2357, 2477, 2533, 2596, 2652, 2663, 2676], 180) := by decide +kernel
theorem dL_law__220 : decode cL_law_ 220 = .ok (.aload_n 1, 1) := by decide +kernel
theorem dL_law__221 : decode cL_law_ 221 = .ok (.aload_n 0, 1) := by decide +kernel
theorem dL_law__222 : decode cL_law_ 222 = .ok (.iload 4, 2) := by decide +kernel
theorem dL_law__224 : decode cL_law_ 224 = .ok (.iconst 1, 1) := by decide +kernel
theorem dL_law__225 : decode cL_law_ 225 = .ok (.iadd, 1) := by decide +kernel
theorem dL_law__226 : decode cL_law_ 226 = .ok (.iaload, 1) := by decide +kernel
theorem dL_law__227 : decode cL_law_ 227 = .ok (.aload_n 0, 1) := by decide +kernel
theorem dL_law__228 : decode cL_law_ 228 = .ok (.iload 4, 2) := by decide +kernel
theorem dL_law__230 : decode cL_law_ 230 = .ok (.iconst 2, 1) := by decide +kernel
theorem dL_law__231 : decode cL_law_ 231 = .ok (.iadd, 1) := by decide +kernel
theorem dL_law__232 : decode cL_law_ 232 = .ok (.iaload, 1) := by decide +kernel
theorem dL_law__233 : decode cL_law_ 233 = .ok (.aload_n 0, 1) := by decide +kernel
theorem dL_law__234 : decode cL_law_ 234 = .ok (.iload 4, 2) := by decide +kernel
theorem dL_law__236 : decode cL_law_ 236 = .ok (.iconst 3, 1) := by decide +kernel
theorem dL_law__237 : decode cL_law_ 237 = .ok (.iadd, 1) := by decide +kernel
theorem dL_law__238 : decode cL_law_ 238 = .ok (.iaload, 1) := by decide +kernel
theorem dL_law__239 : decode cL_law_ 239 = .ok (.aload_n 0, 1) := by decide +kernel
theorem dL_law__240 : decode cL_law_ 240 = .ok (.iload 4, 2) := by decide +kernel
theorem dL_law__242 : decode cL_law_ 242 = .ok (.iconst 4, 1) := by decide +kernel
theorem dL_law__243 : decode cL_law_ 243 = .ok (.iadd, 1) := by decide +kernel
theorem dL_law__244 : decode cL_law_ 244 = .ok (.iaload, 1) := by decide +kernel
theorem dL_law__245 : decode cL_law_ 245 = .ok (.aload_n 0, 1) := by decide +kernel
theorem dL_law__246 : decode cL_law_ 246 = .ok (.iload 4, 2) := by decide +kernel
theorem dL_law__248 : decode cL_law_ 248 = .ok (.iconst 5, 1) := by decide +kernel
theorem dL_law__249 : decode cL_law_ 249 = .ok (.iadd, 1) := by decide +kernel
theorem dL_law__250 : decode cL_law_ 250 = .ok (.iaload, 1) := by decide +kernel
theorem dL_law__251 : decode cL_law_ 251 = .ok (.invokevirtual 131, 3) := by decide +kernel
theorem dL_law__254 : decode cL_law_ 254 = .ok (.aload_n 2, 1) := by decide +kernel
theorem dL_law__255 : decode cL_law_ 255 = .ok (.aload_n 0, 1) := by decide +kernel
theorem dL_law__256 : decode cL_law_ 256 = .ok (.iload 4, 2) := by decide +kernel
theorem dL_law__258 : decode cL_law_ 258 = .ok (.iconst 1, 1) := by decide +kernel
theorem dL_law__259 : decode cL_law_ 259 = .ok (.iadd, 1) := by decide +kernel
theorem dL_law__260 : decode cL_law_ 260 = .ok (.iaload, 1) := by decide +kernel
theorem dL_law__261 : decode cL_law_ 261 = .ok (.aload_n 0, 1) := by decide +kernel
theorem dL_law__262 : decode cL_law_ 262 = .ok (.iload 4, 2) := by decide +kernel
theorem dL_law__264 : decode cL_law_ 264 = .ok (.iconst 2, 1) := by decide +kernel
theorem dL_law__265 : decode cL_law_ 265 = .ok (.iadd, 1) := by decide +kernel
theorem dL_law__266 : decode cL_law_ 266 = .ok (.iaload, 1) := by decide +kernel
theorem dL_law__267 : decode cL_law_ 267 = .ok (.aload_n 0, 1) := by decide +kernel
theorem dL_law__268 : decode cL_law_ 268 = .ok (.iload 4, 2) := by decide +kernel
theorem dL_law__270 : decode cL_law_ 270 = .ok (.iconst 3, 1) := by decide +kernel
theorem dL_law__271 : decode cL_law_ 271 = .ok (.iadd, 1) := by decide +kernel
theorem dL_law__272 : decode cL_law_ 272 = .ok (.iaload, 1) := by decide +kernel
theorem dL_law__273 : decode cL_law_ 273 = .ok (.aload_n 0, 1) := by decide +kernel
theorem dL_law__274 : decode cL_law_ 274 = .ok (.iload 4, 2) := by decide +kernel
theorem dL_law__276 : decode cL_law_ 276 = .ok (.iconst 4, 1) := by decide +kernel
theorem dL_law__277 : decode cL_law_ 277 = .ok (.iadd, 1) := by decide +kernel
theorem dL_law__278 : decode cL_law_ 278 = .ok (.iaload, 1) := by decide +kernel
theorem dL_law__279 : decode cL_law_ 279 = .ok (.aload_n 0, 1) := by decide +kernel
theorem dL_law__280 : decode cL_law_ 280 = .ok (.iload 4, 2) := by decide +kernel
theorem dL_law__282 : decode cL_law_ 282 = .ok (.iconst 5, 1) := by decide +kernel
theorem dL_law__283 : decode cL_law_ 283 = .ok (.iadd, 1) := by decide +kernel
theorem dL_law__284 : decode cL_law_ 284 = .ok (.iaload, 1) := by decide +kernel
theorem dL_law__285 : decode cL_law_ 285 = .ok (.invokevirtual 135, 3) := by decide +kernel
theorem dL_law__288 : decode cL_law_ 288 = .ok (.if_icmp .eq 2453, 3) := by decide +kernel
theorem dL_law__291 : decode cL_law_ 291 = .ok (.iconst 0, 1) := by decide +kernel
theorem dL_law__292 : decode cL_law_ 292 = .ok (.ireturn, 1) := by decide +kernel
theorem dL_law__293 : decode cL_law_ 293 = .ok (.aload_n 1, 1) := by decide +kernel
theorem dL_law__294 : decode cL_law_ 294 = .ok (.aload_n 0, 1) := by decide +kernel
theorem dL_law__295 : decode cL_law_ 295 = .ok (.iload 4, 2) := by decide +kernel
theorem dL_law__297 : decode cL_law_ 297 = .ok (.iconst 1, 1) := by decide +kernel
theorem dL_law__298 : decode cL_law_ 298 = .ok (.iadd, 1) := by decide +kernel
theorem dL_law__299 : decode cL_law_ 299 = .ok (.iaload, 1) := by decide +kernel
theorem dL_law__300 : decode cL_law_ 300 = .ok (.invokevirtual 136, 3) := by decide +kernel
theorem dL_law__303 : decode cL_law_ 303 = .ok (.aload_n 2, 1) := by decide +kernel
theorem dL_law__304 : decode cL_law_ 304 = .ok (.aload_n 0, 1) := by decide +kernel
theorem dL_law__305 : decode cL_law_ 305 = .ok (.iload 4, 2) := by decide +kernel
theorem dL_law__307 : decode cL_law_ 307 = .ok (.iconst 1, 1) := by decide +kernel
theorem dL_law__308 : decode cL_law_ 308 = .ok (.iadd, 1) := by decide +kernel
theorem dL_law__309 : decode cL_law_ 309 = .ok (.iaload, 1) := by decide +kernel
theorem dL_law__310 : decode cL_law_ 310 = .ok (.invokevirtual 139, 3) := by decide +kernel
theorem dL_law__313 : decode cL_law_ 313 = .ok (.if_icmp .eq 2428, 3) := by decide +kernel
theorem dL_law__316 : decode cL_law_ 316 = .ok (.iconst 0, 1) := by decide +kernel
theorem dL_law__317 : decode cL_law_ 317 = .ok (.ireturn, 1) := by decide +kernel
theorem dL_law__318 : decode cL_law_ 318 = .ok (.aload_n 1, 1) := by decide +kernel
theorem dL_law__319 : decode cL_law_ 319 = .ok (.aload_n 0, 1) := by decide +kernel
theorem dL_law__320 : decode cL_law_ 320 = .ok (.iload 4, 2) := by decide +kernel
theorem dL_law__322 : decode cL_law_ 322 = .ok (.iconst 1, 1) := by decide +kernel
theorem dL_law__323 : decode cL_law_ 323 = .ok (.iadd, 1) := by decide +kernel
theorem dL_law__324 : decode cL_law_ 324 = .ok (.iaload, 1) := by decide +kernel
theorem dL_law__325 : decode cL_law_ 325 = .ok (.aload_n 0, 1) := by decide +kernel
theorem dL_law__326 : decode cL_law_ 326 = .ok (.iload 4, 2) := by decide +kernel
theorem dL_law__328 : decode cL_law_ 328 = .ok (.iconst 2, 1) := by decide +kernel
theorem dL_law__329 : decode cL_law_ 329 = .ok (.iadd, 1) := by decide +kernel
theorem dL_law__330 : decode cL_law_ 330 = .ok (.iaload, 1) := by decide +kernel
theorem dL_law__331 : decode cL_law_ 331 = .ok (.aload_n 0, 1) := by decide +kernel
theorem dL_law__332 : decode cL_law_ 332 = .ok (.iload 4, 2) := by decide +kernel
theorem dL_law__334 : decode cL_law_ 334 = .ok (.iconst 3, 1) := by decide +kernel
theorem dL_law__335 : decode cL_law_ 335 = .ok (.iadd, 1) := by decide +kernel
theorem dL_law__336 : decode cL_law_ 336 = .ok (.iaload, 1) := by decide +kernel
theorem dL_law__337 : decode cL_law_ 337 = .ok (.invokestatic 140, 3) := by decide +kernel
theorem dL_law__340 : decode cL_law_ 340 = .ok (.istore 5, 2) := by decide +kernel
theorem dL_law__342 : decode cL_law_ 342 = .ok (.aload_n 2, 1) := by decide +kernel
theorem dL_law__343 : decode cL_law_ 343 = .ok (.aload_n 0, 1) := by decide +kernel
theorem dL_law__344 : decode cL_law_ 344 = .ok (.iload 4, 2) := by decide +kernel
theorem dL_law__346 : decode cL_law_ 346 = .ok (.iconst 1, 1) := by decide +kernel
theorem dL_law__347 : decode cL_law_ 347 = .ok (.iadd, 1) := by decide +kernel
theorem dL_law__348 : decode cL_law_ 348 = .ok (.iaload, 1) := by decide +kernel
theorem dL_law__349 : decode cL_law_ 349 = .ok (.aload_n 0, 1) := by decide +kernel
theorem dL_law__350 : decode cL_law_ 350 = .ok (.iload 4, 2) := by decide +kernel
theorem dL_law__352 : decode cL_law_ 352 = .ok (.iconst 2, 1) := by decide +kernel
theorem dL_law__353 : decode cL_law_ 353 = .ok (.iadd, 1) := by decide +kernel
theorem dL_law__354 : decode cL_law_ 354 = .ok (.iaload, 1) := by decide +kernel
theorem dL_law__355 : decode cL_law_ 355 = .ok (.aload_n 0, 1) := by decide +kernel
theorem dL_law__356 : decode cL_law_ 356 = .ok (.iload 4, 2) := by decide +kernel
theorem dL_law__358 : decode cL_law_ 358 = .ok (.iconst 3, 1) := by decide +kernel
theorem dL_law__359 : decode cL_law_ 359 = .ok (.iadd, 1) := by decide +kernel
theorem dL_law__360 : decode cL_law_ 360 = .ok (.iaload, 1) := by decide +kernel
theorem dL_law__361 : decode cL_law_ 361 = .ok (.invokevirtual 145, 3) := by decide +kernel
theorem dL_law__364 : decode cL_law_ 364 = .ok (.aload_n 2, 1) := by decide +kernel
theorem dL_law__365 : decode cL_law_ 365 = .ok (.invokevirtual 146, 3) := by decide +kernel
theorem dL_law__368 : decode cL_law_ 368 = .ok (.iload 5, 2) := by decide +kernel
theorem dL_law__370 : decode cL_law_ 370 = .ok (.if_icmp .eq 5, 3) := by decide +kernel
theorem dL_law__373 : decode cL_law_ 373 = .ok (.iconst 0, 1) := by decide +kernel
theorem dL_law__374 : decode cL_law_ 374 = .ok (.ireturn, 1) := by decide +kernel
theorem dL_law__375 : decode cL_law_ 375 = .ok (.goto 2366, 3) := by decide +kernel
theorem dL_law__378 : decode cL_law_ 378 = .ok (.aload_n 1, 1) := by decide +kernel
theorem dL_law__379 : decode cL_law_ 379 = .ok (.aload_n 0, 1) := by decide +kernel
theorem dL_law__380 : decode cL_law_ 380 = .ok (.iload 4, 2) := by decide +kernel
theorem dL_law__382 : decode cL_law_ 382 = .ok (.iconst 1, 1) := by decide +kernel
theorem dL_law__383 : decode cL_law_ 383 = .ok (.iadd, 1) := by decide +kernel
theorem dL_law__384 : decode cL_law_ 384 = .ok (.iaload, 1) := by decide +kernel
theorem dL_law__385 : decode cL_law_ 385 = .ok (.aload_n 3, 1) := by decide +kernel
theorem dL_law__386 : decode cL_law_ 386 = .ok (.invokestatic 149, 3) := by decide +kernel
theorem dL_law__389 : decode cL_law_ 389 = .ok (.istore 5, 2) := by decide +kernel
theorem dL_law__391 : decode cL_law_ 391 = .ok (.aload_n 2, 1) := by decide +kernel
theorem dL_law__392 : decode cL_law_ 392 = .ok (.aload_n 0, 1) := by decide +kernel
theorem dL_law__393 : decode cL_law_ 393 = .ok (.iload 4, 2) := by decide +kernel
theorem dL_law__395 : decode cL_law_ 395 = .ok (.iconst 1, 1) := by decide +kernel
theorem dL_law__396 : decode cL_law_ 396 = .ok (.iadd, 1) := by decide +kernel
theorem dL_law__397 : decode cL_law_ 397 = .ok (.iaload, 1) := by decide +kernel
theorem dL_law__398 : decode cL_law_ 398 = .ok (.invokevirtual 152, 3) := by decide +kernel
theorem dL_law__401 : decode cL_law_ 401 = .ok (.istore 6, 2) := by decide +kernel
theorem dL_law__403 : decode cL_law_ 403 = .ok (.aload_n 2, 1) := by decide +kernel
theorem dL_law__404 : decode cL_law_ 404 = .ok (.invokevirtual 146, 3) := by decide +kernel
theorem dL_law__407 : decode cL_law_ 407 = .ok (.iload 5, 2) := by decide +kernel
theorem dL_law__409 : decode cL_law_ 409 = .ok (.if_icmp .eq 5, 3) := by decide +kernel
theorem dL_law__412 : decode cL_law_ 412 = .ok (.iconst 0, 1) := by decide +kernel
theorem dL_law__413 : decode cL_law_ 413 = .ok (.ireturn, 1) := by decide +kernel
theorem dL_law__414 : decode cL_law_ 414 = .ok (.iload 5, 2) := by decide +kernel
theorem dL_law__416 : decode cL_law_ 416 = .ok (.ifCond .ne 15, 3) := by decide +kernel
theorem dL_law__419 : decode cL_law_ 419 = .ok (.aload_n 3, 1) := by decide +kernel
theorem dL_law__420 : decode cL_law_ 420 = .ok (.iconst 0, 1) := by decide +kernel
theorem dL_law__421 : decode cL_law_ 421 = .ok (.laload, 1) := by decide +kernel
theorem dL_law__422 : decode cL_law_ 422 = .ok (.iload 6, 2) := by decide +kernel
theorem dL_law__424 : decode cL_law_ 424 = .ok (.i2l, 1) := by decide +kernel
theorem dL_law__425 : decode cL_law_ 425 = .ok (.lcmp, 1) := by decide +kernel
theorem dL_law__426 : decode cL_law_ 426 = .ok (.ifCond .eq 5, 3) := by decide +kernel
theorem dL_law__429 : decode cL_law_ 429 = .ok (.iconst 0, 1) := by decide +kernel
theorem dL_law__430 : decode cL_law_ 430 = .ok (.ireturn, 1) := by decide +kernel
theorem dL_law__431 : decode cL_law_ 431 = .ok (.goto 2310, 3) := by decide +kernel
theorem dL_law__434 : decode cL_law_ 434 = .ok (.aload_n 1, 1) := by decide +kernel
theorem dL_law__435 : decode cL_law_ 435 = .ok (.aload_n 0, 1) := by decide +kernel
theorem dL_law__436 : decode cL_law_ 436 = .ok (.iload 4, 2) := by decide +kernel
theorem dL_law__438 : decode cL_law_ 438 = .ok (.iconst 1, 1) := by decide +kernel
theorem dL_law__439 : decode cL_law_ 439 = .ok (.iadd, 1) := by decide +kernel
theorem dL_law__440 : decode cL_law_ 440 = .ok (.iaload, 1) := by decide +kernel
theorem dL_law__441 : decode cL_law_ 441 = .ok (.aload_n 0, 1) := by decide +kernel
theorem dL_law__442 : decode cL_law_ 442 = .ok (.iload 4, 2) := by decide +kernel
theorem dL_law__444 : decode cL_law_ 444 = .ok (.iconst 2, 1) := by decide +kernel
theorem dL_law__445 : decode cL_law_ 445 = .ok (.iadd, 1) := by decide +kernel
theorem dL_law__446 : decode cL_law_ 446 = .ok (.iaload, 1) := by decide +kernel
theorem dL_law__447 : decode cL_law_ 447 = .ok (.aload_n 3, 1) := by decide +kernel
theorem dL_law__448 : decode cL_law_ 448 = .ok (.invokestatic 153, 3) := by decide +kernel
theorem dL_law__451 : decode cL_law_ 451 = .ok (.istore 5, 2) := by decide +kernel
theorem dL_law__453 : decode cL_law_ 453 = .ok (.aload_n 2, 1) := by decide +kernel
theorem dL_law__454 : decode cL_law_ 454 = .ok (.aload_n 0, 1) := by decide +kernel
theorem dL_law__455 : decode cL_law_ 455 = .ok (.iload 4, 2) := by decide +kernel
theorem dL_law__457 : decode cL_law_ 457 = .ok (.iconst 1, 1) := by decide +kernel
theorem dL_law__458 : decode cL_law_ 458 = .ok (.iadd, 1) := by decide +kernel
theorem dL_law__459 : decode cL_law_ 459 = .ok (.iaload, 1) := by decide +kernel
theorem dL_law__460 : decode cL_law_ 460 = .ok (.aload_n 0, 1) := by decide +kernel
theorem dL_law__461 : decode cL_law_ 461 = .ok (.iload 4, 2) := by decide +kernel
theorem dL_law__463 : decode cL_law_ 463 = .ok (.iconst 2, 1) := by decide +kernel
theorem dL_law__464 : decode cL_law_ 464 = .ok (.iadd, 1) := by decide +kernel
theorem dL_law__465 : decode cL_law_ 465 = .ok (.iaload, 1) := by decide +kernel
theorem dL_law__466 : decode cL_law_ 466 = .ok (.invokevirtual 156, 3) := by decide +kernel
theorem dL_law__469 : decode cL_law_ 469 = .ok (.istore 6, 2) := by decide +kernel
theorem dL_law__471 : decode cL_law_ 471 = .ok (.aload_n 2, 1) := by decide +kernel
theorem dL_law__472 : decode cL_law_ 472 = .ok (.invokevirtual 146, 3) := by decide +kernel
theorem dL_law__475 : decode cL_law_ 475 = .ok (.iload 5, 2) := by decide +kernel
theorem dL_law__477 : decode cL_law_ 477 = .ok (.if_icmp .eq 5, 3) := by decide +kernel
theorem dL_law__480 : decode cL_law_ 480 = .ok (.iconst 0, 1) := by decide +kernel
theorem dL_law__481 : decode cL_law_ 481 = .ok (.ireturn, 1) := by decide +kernel
theorem dL_law__482 : decode cL_law_ 482 = .ok (.iload 5, 2) := by decide +kernel
theorem dL_law__484 : decode cL_law_ 484 = .ok (.ifCond .ne 22, 3) := by decide +kernel
theorem dL_law__487 : decode cL_law_ 487 = .ok (.aload_n 3, 1) := by decide +kernel
theorem dL_law__488 : decode cL_law_ 488 = .ok (.iconst 0, 1) := by decide +kernel
theorem dL_law__489 : decode cL_law_ 489 = .ok (.laload, 1) := by decide +kernel
theorem dL_law__490 : decode cL_law_ 490 = .ok (.iload 6, 2) := by decide +kernel
theorem dL_law__492 : decode cL_law_ 492 = .ok (.ifCond .eq 7, 3) := by decide +kernel
theorem dL_law__495 : decode cL_law_ 495 = .ok (.lconst 1, 1) := by decide +kernel
theorem dL_law__496 : decode cL_law_ 496 = .ok (.goto 4, 3) := by decide +kernel
theorem dL_law__499 : decode cL_law_ 499 = .ok (.lconst 0, 1) := by decide +kernel
theorem dL_law__500 : decode cL_law_ 500 = .ok (.lcmp, 1) := by decide +kernel
theorem dL_law__501 : decode cL_law_ 501 = .ok (.ifCond .eq 5, 3) := by decide +kernel
theorem dL_law__504 : decode cL_law_ 504 = .ok (.iconst 0, 1) := by decide +kernel
theorem dL_law__505 : decode cL_law_ 505 = .ok (.ireturn, 1) := by decide +kernel
theorem dL_law__506 : decode cL_law_ 506 = .ok (.goto 2235, 3) := by decide +kernel
theorem dL_law__509 : decode cL_law_ 509 = .ok (.aload_n 1, 1) := by decide +kernel
theorem dL_law__510 : decode cL_law_ 510 = .ok (.aload_n 0, 1) := by decide +kernel
theorem dL_law__511 : decode cL_law_ 511 = .ok (.iload 4, 2) := by decide +kernel
theorem dL_law__513 : decode cL_law_ 513 = .ok (.iconst 1, 1) := by decide +kernel
theorem dL_law__514 : decode cL_law_ 514 = .ok (.iadd, 1) := by decide +kernel
theorem dL_law__515 : decode cL_law_ 515 = .ok (.iaload, 1) := by decide +kernel
theorem dL_law__516 : decode cL_law_ 516 = .ok (.aload_n 0, 1) := by decide +kernel
theorem dL_law__517 : decode cL_law_ 517 = .ok (.iload 4, 2) := by decide +kernel
theorem dL_law__519 : decode cL_law_ 519 = .ok (.iconst 2, 1) := by decide +kernel
theorem dL_law__520 : decode cL_law_ 520 = .ok (.iadd, 1) := by decide +kernel
theorem dL_law__521 : decode cL_law_ 521 = .ok (.iaload, 1) := by decide +kernel
theorem dL_law__522 : decode cL_law_ 522 = .ok (.aload_n 0, 1) := by decide +kernel
theorem dL_law__523 : decode cL_law_ 523 = .ok (.iload 4, 2) := by decide +kernel
theorem dL_law__525 : decode cL_law_ 525 = .ok (.iconst 3, 1) := by decide +kernel
theorem dL_law__526 : decode cL_law_ 526 = .ok (.iadd, 1) := by decide +kernel
theorem dL_law__527 : decode cL_law_ 527 = .ok (.iaload, 1) := by decide +kernel
theorem dL_law__528 : decode cL_law_ 528 = .ok (.aload_n 0, 1) := by decide +kernel
theorem dL_law__529 : decode cL_law_ 529 = .ok (.iload 4, 2) := by decide +kernel
theorem dL_law__531 : decode cL_law_ 531 = .ok (.iconst 4, 1) := by decide +kernel
theorem dL_law__532 : decode cL_law_ 532 = .ok (.iadd, 1) := by decide +kernel
theorem dL_law__533 : decode cL_law_ 533 = .ok (.iaload, 1) := by decide +kernel
theorem dL_law__534 : decode cL_law_ 534 = .ok (.aload_n 3, 1) := by decide +kernel
theorem dL_law__535 : decode cL_law_ 535 = .ok (.invokestatic 157, 3) := by decide +kernel
theorem dL_law__538 : decode cL_law_ 538 = .ok (.istore 5, 2) := by decide +kernel
theorem dL_law__540 : decode cL_law_ 540 = .ok (.aload_n 2, 1) := by decide +kernel
theorem dL_law__541 : decode cL_law_ 541 = .ok (.aload_n 0, 1) := by decide +kernel
theorem dL_law__542 : decode cL_law_ 542 = .ok (.iload 4, 2) := by decide +kernel
theorem dL_law__544 : decode cL_law_ 544 = .ok (.iconst 1, 1) := by decide +kernel
theorem dL_law__545 : decode cL_law_ 545 = .ok (.iadd, 1) := by decide +kernel
theorem dL_law__546 : decode cL_law_ 546 = .ok (.iaload, 1) := by decide +kernel
theorem dL_law__547 : decode cL_law_ 547 = .ok (.aload_n 0, 1) := by decide +kernel
theorem dL_law__548 : decode cL_law_ 548 = .ok (.iload 4, 2) := by decide +kernel
theorem dL_law__550 : decode cL_law_ 550 = .ok (.iconst 2, 1) := by decide +kernel
theorem dL_law__551 : decode cL_law_ 551 = .ok (.iadd, 1) := by decide +kernel
theorem dL_law__552 : decode cL_law_ 552 = .ok (.iaload, 1) := by decide +kernel
theorem dL_law__553 : decode cL_law_ 553 = .ok (.aload_n 0, 1) := by decide +kernel
theorem dL_law__554 : decode cL_law_ 554 = .ok (.iload 4, 2) := by decide +kernel
theorem dL_law__556 : decode cL_law_ 556 = .ok (.iconst 3, 1) := by decide +kernel
theorem dL_law__557 : decode cL_law_ 557 = .ok (.iadd, 1) := by decide +kernel
theorem dL_law__558 : decode cL_law_ 558 = .ok (.iaload, 1) := by decide +kernel
theorem dL_law__559 : decode cL_law_ 559 = .ok (.aload_n 0, 1) := by decide +kernel
theorem dL_law__560 : decode cL_law_ 560 = .ok (.iload 4, 2) := by decide +kernel
theorem dL_law__562 : decode cL_law_ 562 = .ok (.iconst 4, 1) := by decide +kernel
theorem dL_law__563 : decode cL_law_ 563 = .ok (.iadd, 1) := by decide +kernel
theorem dL_law__564 : decode cL_law_ 564 = .ok (.iaload, 1) := by decide +kernel
theorem dL_law__565 : decode cL_law_ 565 = .ok (.invokevirtual 160, 3) := by decide +kernel
theorem dL_law__568 : decode cL_law_ 568 = .ok (.istore 6, 2) := by decide +kernel
theorem dL_law__570 : decode cL_law_ 570 = .ok (.aload_n 2, 1) := by decide +kernel
theorem dL_law__571 : decode cL_law_ 571 = .ok (.invokevirtual 146, 3) := by decide +kernel
theorem dL_law__574 : decode cL_law_ 574 = .ok (.iload 5, 2) := by decide +kernel
theorem dL_law__576 : decode cL_law_ 576 = .ok (.if_icmp .eq 5, 3) := by decide +kernel
theorem dL_law__579 : decode cL_law_ 579 = .ok (.iconst 0, 1) := by decide +kernel
theorem dL_law__580 : decode cL_law_ 580 = .ok (.ireturn, 1) := by decide +kernel
theorem dL_law__581 : decode cL_law_ 581 = .ok (.iload 5, 2) := by decide +kernel
theorem dL_law__583 : decode cL_law_ 583 = .ok (.ifCond .ne 15, 3) := by decide +kernel
theorem dL_law__586 : decode cL_law_ 586 = .ok (.aload_n 3, 1) := by decide +kernel
theorem dL_law__587 : decode cL_law_ 587 = .ok (.iconst 0, 1) := by decide +kernel
theorem dL_law__588 : decode cL_law_ 588 = .ok (.laload, 1) := by decide +kernel
theorem dL_law__589 : decode cL_law_ 589 = .ok (.iload 6, 2) := by decide +kernel
theorem dL_law__591 : decode cL_law_ 591 = .ok (.i2l, 1) := by decide +kernel
theorem dL_law__592 : decode cL_law_ 592 = .ok (.lcmp, 1) := by decide +kernel
theorem dL_law__593 : decode cL_law_ 593 = .ok (.ifCond .eq 5, 3) := by decide +kernel
theorem dL_law__596 : decode cL_law_ 596 = .ok (.iconst 0, 1) := by decide +kernel
theorem dL_law__597 : decode cL_law_ 597 = .ok (.ireturn, 1) := by decide +kernel
theorem dL_law__598 : decode cL_law_ 598 = .ok (.goto 2143, 3) := by decide +kernel
theorem dL_law__601 : decode cL_law_ 601 = .ok (.aload_n 1, 1) := by decide +kernel
theorem dL_law__602 : decode cL_law_ 602 = .ok (.aload_n 0, 1) := by decide +kernel
theorem dL_law__603 : decode cL_law_ 603 = .ok (.iload 4, 2) := by decide +kernel
theorem dL_law__605 : decode cL_law_ 605 = .ok (.iconst 1, 1) := by decide +kernel
theorem dL_law__606 : decode cL_law_ 606 = .ok (.iadd, 1) := by decide +kernel
theorem dL_law__607 : decode cL_law_ 607 = .ok (.iaload, 1) := by decide +kernel
theorem dL_law__608 : decode cL_law_ 608 = .ok (.invokestatic 161, 3) := by decide +kernel
theorem dL_law__611 : decode cL_law_ 611 = .ok (.istore 5, 2) := by decide +kernel
theorem dL_law__613 : decode cL_law_ 613 = .ok (.aload_n 2, 1) := by decide +kernel
theorem dL_law__614 : decode cL_law_ 614 = .ok (.aload_n 0, 1) := by decide +kernel
theorem dL_law__615 : decode cL_law_ 615 = .ok (.iload 4, 2) := by decide +kernel
theorem dL_law__617 : decode cL_law_ 617 = .ok (.iconst 1, 1) := by decide +kernel
theorem dL_law__618 : decode cL_law_ 618 = .ok (.iadd, 1) := by decide +kernel
theorem dL_law__619 : decode cL_law_ 619 = .ok (.iaload, 1) := by decide +kernel
theorem dL_law__620 : decode cL_law_ 620 = .ok (.invokevirtual 164, 3) := by decide +kernel
theorem dL_law__623 : decode cL_law_ 623 = .ok (.aload_n 2, 1) := by decide +kernel
theorem dL_law__624 : decode cL_law_ 624 = .ok (.invokevirtual 146, 3) := by decide +kernel
theorem dL_law__627 : decode cL_law_ 627 = .ok (.iload 5, 2) := by decide +kernel
theorem dL_law__629 : decode cL_law_ 629 = .ok (.if_icmp .eq 5, 3) := by decide +kernel
theorem dL_law__632 : decode cL_law_ 632 = .ok (.iconst 0, 1) := by decide +kernel
theorem dL_law__633 : decode cL_law_ 633 = .ok (.ireturn, 1) := by decide +kernel
theorem dL_law__634 : decode cL_law_ 634 = .ok (.goto 2107, 3) := by decide +kernel
theorem dL_law__637 : decode cL_law_ 637 = .ok (.aload_n 1, 1) := by decide +kernel
theorem dL_law__638 : decode cL_law_ 638 = .ok (.aload_n 3, 1) := by decide +kernel
theorem dL_law__639 : decode cL_law_ 639 = .ok (.invokestatic 165, 3) := by decide +kernel
theorem dL_law__642 : decode cL_law_ 642 = .ok (.istore 5, 2) := by decide +kernel
theorem dL_law__644 : decode cL_law_ 644 = .ok (.aload_n 2, 1) := by decide +kernel
theorem dL_law__645 : decode cL_law_ 645 = .ok (.invokevirtual 168, 3) := by decide +kernel
theorem dL_law__648 : decode cL_law_ 648 = .ok (.istore 6, 2) := by decide +kernel
theorem dL_law__650 : decode cL_law_ 650 = .ok (.aload_n 2, 1) := by decide +kernel
theorem dL_law__651 : decode cL_law_ 651 = .ok (.invokevirtual 146, 3) := by decide +kernel
theorem dL_law__654 : decode cL_law_ 654 = .ok (.iload 5, 2) := by decide +kernel
theorem dL_law__656 : decode cL_law_ 656 = .ok (.if_icmp .eq 5, 3) := by decide +kernel
theorem dL_law__659 : decode cL_law_ 659 = .ok (.iconst 0, 1) := by decide +kernel
theorem dL_law__660 : decode cL_law_ 660 = .ok (.ireturn, 1) := by decide +kernel
theorem dL_law__661 : decode cL_law_ 661 = .ok (.iload 5, 2) := by decide +kernel
theorem dL_law__663 : decode cL_law_ 663 = .ok (.ifCond .ne 15, 3) := by decide +kernel
theorem dL_law__666 : decode cL_law_ 666 = .ok (.aload_n 3, 1) := by decide +kernel
theorem dL_law__667 : decode cL_law_ 667 = .ok (.iconst 0, 1) := by decide +kernel
theorem dL_law__668 : decode cL_law_ 668 = .ok (.laload, 1) := by decide +kernel
theorem dL_law__669 : decode cL_law_ 669 = .ok (.iload 6, 2) := by decide +kernel
theorem dL_law__671 : decode cL_law_ 671 = .ok (.i2l, 1) := by decide +kernel
theorem dL_law__672 : decode cL_law_ 672 = .ok (.lcmp, 1) := by decide +kernel
theorem dL_law__673 : decode cL_law_ 673 = .ok (.ifCond .eq 5, 3) := by decide +kernel
theorem dL_law__676 : decode cL_law_ 676 = .ok (.iconst 0, 1) := by decide +kernel
theorem dL_law__677 : decode cL_law_ 677 = .ok (.ireturn, 1) := by decide +kernel
theorem dL_law__678 : decode cL_law_ 678 = .ok (.goto 2063, 3) := by decide +kernel
theorem dL_law__681 : decode cL_law_ 681 = .ok (.aload_n 1, 1) := by decide +kernel
theorem dL_law__682 : decode cL_law_ 682 = .ok (.invokevirtual 169, 3) := by decide +kernel
theorem dL_law__685 : decode cL_law_ 685 = .ok (.aload_n 2, 1) := by decide +kernel
theorem dL_law__686 : decode cL_law_ 686 = .ok (.invokevirtual 172, 3) := by decide +kernel
theorem dL_law__689 : decode cL_law_ 689 = .ok (.if_icmp .eq 2052, 3) := by decide +kernel
theorem dL_law__692 : decode cL_law_ 692 = .ok (.iconst 0, 1) := by decide +kernel
theorem dL_law__693 : decode cL_law_ 693 = .ok (.ireturn, 1) := by decide +kernel
theorem dL_law__694 : decode cL_law_ 694 = .ok (.aload_n 1, 1) := by decide +kernel
theorem dL_law__695 : decode cL_law_ 695 = .ok (.aload_n 0, 1) := by decide +kernel
theorem dL_law__696 : decode cL_law_ 696 = .ok (.iload 4, 2) := by decide +kernel
theorem dL_law__698 : decode cL_law_ 698 = .ok (.iconst 1, 1) := by decide +kernel
theorem dL_law__699 : decode cL_law_ 699 = .ok (.iadd, 1) := by decide +kernel
theorem dL_law__700 : decode cL_law_ 700 = .ok (.iaload, 1) := by decide +kernel
theorem dL_law__701 : decode cL_law_ 701 = .ok (.aload_n 0, 1) := by decide +kernel
theorem dL_law__702 : decode cL_law_ 702 = .ok (.iload 4, 2) := by decide +kernel
theorem dL_law__704 : decode cL_law_ 704 = .ok (.iconst 2, 1) := by decide +kernel
theorem dL_law__705 : decode cL_law_ 705 = .ok (.iadd, 1) := by decide +kernel
theorem dL_law__706 : decode cL_law_ 706 = .ok (.iaload, 1) := by decide +kernel
theorem dL_law__707 : decode cL_law_ 707 = .ok (.aload_n 0, 1) := by decide +kernel
theorem dL_law__708 : decode cL_law_ 708 = .ok (.iload 4, 2) := by decide +kernel
theorem dL_law__710 : decode cL_law_ 710 = .ok (.iconst 3, 1) := by decide +kernel
theorem dL_law__711 : decode cL_law_ 711 = .ok (.iadd, 1) := by decide +kernel
theorem dL_law__712 : decode cL_law_ 712 = .ok (.iaload, 1) := by decide +kernel
theorem dL_law__713 : decode cL_law_ 713 = .ok (.aload_n 0, 1) := by decide +kernel
theorem dL_law__714 : decode cL_law_ 714 = .ok (.iload 4, 2) := by decide +kernel
theorem dL_law__716 : decode cL_law_ 716 = .ok (.iconst 4, 1) := by decide +kernel
theorem dL_law__717 : decode cL_law_ 717 = .ok (.iadd, 1) := by decide +kernel
theorem dL_law__718 : decode cL_law_ 718 = .ok (.iaload, 1) := by decide +kernel
theorem dL_law__719 : decode cL_law_ 719 = .ok (.aload_n 3, 1) := by decide +kernel
theorem dL_law__720 : decode cL_law_ 720 = .ok (.invokestatic 173, 3) := by decide +kernel
theorem dL_law__723 : decode cL_law_ 723 = .ok (.istore 5, 2) := by decide +kernel
theorem dL_law__725 : decode cL_law_ 725 = .ok (.aload_n 2, 1) := by decide +kernel
theorem dL_law__726 : decode cL_law_ 726 = .ok (.aload_n 0, 1) := by decide +kernel
theorem dL_law__727 : decode cL_law_ 727 = .ok (.iload 4, 2) := by decide +kernel
theorem dL_law__729 : decode cL_law_ 729 = .ok (.iconst 1, 1) := by decide +kernel
theorem dL_law__730 : decode cL_law_ 730 = .ok (.iadd, 1) := by decide +kernel
theorem dL_law__731 : decode cL_law_ 731 = .ok (.iaload, 1) := by decide +kernel
theorem dL_law__732 : decode cL_law_ 732 = .ok (.aload_n 0, 1) := by decide +kernel
theorem dL_law__733 : decode cL_law_ 733 = .ok (.iload 4, 2) := by decide +kernel
theorem dL_law__735 : decode cL_law_ 735 = .ok (.iconst 2, 1) := by decide +kernel
theorem dL_law__736 : decode cL_law_ 736 = .ok (.iadd, 1) := by decide +kernel
theorem dL_law__737 : decode cL_law_ 737 = .ok (.iaload, 1) := by decide +kernel
theorem dL_law__738 : decode cL_law_ 738 = .ok (.aload_n 0, 1) := by decide +kernel
theorem dL_law__739 : decode cL_law_ 739 = .ok (.iload 4, 2) := by decide +kernel
theorem dL_law__741 : decode cL_law_ 741 = .ok (.iconst 3, 1) := by decide +kernel
theorem dL_law__742 : decode cL_law_ 742 = .ok (.iadd, 1) := by decide +kernel
theorem dL_law__743 : decode cL_law_ 743 = .ok (.iaload, 1) := by decide +kernel
theorem dL_law__744 : decode cL_law_ 744 = .ok (.aload_n 0, 1) := by decide +kernel
theorem dL_law__745 : decode cL_law_ 745 = .ok (.iload 4, 2) := by decide +kernel
theorem dL_law__747 : decode cL_law_ 747 = .ok (.iconst 4, 1) := by decide +kernel
theorem dL_law__748 : decode cL_law_ 748 = .ok (.iadd, 1) := by decide +kernel
theorem dL_law__749 : decode cL_law_ 749 = .ok (.iaload, 1) := by decide +kernel
theorem dL_law__750 : decode cL_law_ 750 = .ok (.invokevirtual 175, 3) := by decide +kernel
theorem dL_law__753 : decode cL_law_ 753 = .ok (.istore 6, 2) := by decide +kernel
theorem dL_law__755 : decode cL_law_ 755 = .ok (.aload_n 2, 1) := by decide +kernel
theorem dL_law__756 : decode cL_law_ 756 = .ok (.invokevirtual 146, 3) := by decide +kernel
theorem dL_law__759 : decode cL_law_ 759 = .ok (.iload 5, 2) := by decide +kernel
theorem dL_law__761 : decode cL_law_ 761 = .ok (.if_icmp .eq 5, 3) := by decide +kernel
theorem dL_law__764 : decode cL_law_ 764 = .ok (.iconst 0, 1) := by decide +kernel
theorem dL_law__765 : decode cL_law_ 765 = .ok (.ireturn, 1) := by decide +kernel
theorem dL_law__766 : decode cL_law_ 766 = .ok (.iload 5, 2) := by decide +kernel
theorem dL_law__768 : decode cL_law_ 768 = .ok (.ifCond .ne 15, 3) := by decide +kernel
theorem dL_law__771 : decode cL_law_ 771 = .ok (.aload_n 3, 1) := by decide +kernel
theorem dL_law__772 : decode cL_law_ 772 = .ok (.iconst 0, 1) := by decide +kernel
theorem dL_law__773 : decode cL_law_ 773 = .ok (.laload, 1) := by decide +kernel
theorem dL_law__774 : decode cL_law_ 774 = .ok (.iload 6, 2) := by decide +kernel
theorem dL_law__776 : decode cL_law_ 776 = .ok (.i2l, 1) := by decide +kernel
theorem dL_law__777 : decode cL_law_ 777 = .ok (.lcmp, 1) := by decide +kernel
theorem dL_law__778 : decode cL_law_ 778 = .ok (.ifCond .eq 5, 3) := by decide +kernel
theorem dL_law__781 : decode cL_law_ 781 = .ok (.iconst 0, 1) := by decide +kernel
theorem dL_law__782 : decode cL_law_ 782 = .ok (.ireturn, 1) := by decide +kernel
theorem dL_law__783 : decode cL_law_ 783 = .ok (.goto 1958, 3) := by decide +kernel
theorem dL_law__786 : decode cL_law_ 786 = .ok (.aload_n 1, 1) := by decide +kernel
theorem dL_law__787 : decode cL_law_ 787 = .ok (.aload_n 0, 1) := by decide +kernel
theorem dL_law__788 : decode cL_law_ 788 = .ok (.iload 4, 2) := by decide +kernel
theorem dL_law__790 : decode cL_law_ 790 = .ok (.iconst 1, 1) := by decide +kernel
theorem dL_law__791 : decode cL_law_ 791 = .ok (.iadd, 1) := by decide +kernel
theorem dL_law__792 : decode cL_law_ 792 = .ok (.iaload, 1) := by decide +kernel
theorem dL_law__793 : decode cL_law_ 793 = .ok (.aload_n 0, 1) := by decide +kernel
theorem dL_law__794 : decode cL_law_ 794 = .ok (.iload 4, 2) := by decide +kernel
theorem dL_law__796 : decode cL_law_ 796 = .ok (.iconst 2, 1) := by decide +kernel
theorem dL_law__797 : decode cL_law_ 797 = .ok (.iadd, 1) := by decide +kernel
theorem dL_law__798 : decode cL_law_ 798 = .ok (.iaload, 1) := by decide +kernel
theorem dL_law__799 : decode cL_law_ 799 = .ok (.aload_n 3, 1) := by decide +kernel
theorem dL_law__800 : decode cL_law_ 800 = .ok (.invokestatic 176, 3) := by decide +kernel
theorem dL_law__803 : decode cL_law_ 803 = .ok (.istore 5, 2) := by decide +kernel
theorem dL_law__805 : decode cL_law_ 805 = .ok (.aload_n 2, 1) := by decide +kernel
theorem dL_law__806 : decode cL_law_ 806 = .ok (.aload_n 0, 1) := by decide +kernel
theorem dL_law__807 : decode cL_law_ 807 = .ok (.iload 4, 2) := by decide +kernel
theorem dL_law__809 : decode cL_law_ 809 = .ok (.iconst 1, 1) := by decide +kernel
theorem dL_law__810 : decode cL_law_ 810 = .ok (.iadd, 1) := by decide +kernel
theorem dL_law__811 : decode cL_law_ 811 = .ok (.iaload, 1) := by decide +kernel
theorem dL_law__812 : decode cL_law_ 812 = .ok (.aload_n 0, 1) := by decide +kernel
theorem dL_law__813 : decode cL_law_ 813 = .ok (.iload 4, 2) := by decide +kernel
theorem dL_law__815 : decode cL_law_ 815 = .ok (.iconst 2, 1) := by decide +kernel
theorem dL_law__816 : decode cL_law_ 816 = .ok (.iadd, 1) := by decide +kernel
theorem dL_law__817 : decode cL_law_ 817 = .ok (.iaload, 1) := by decide +kernel
theorem dL_law__818 : decode cL_law_ 818 = .ok (.invokevirtual 178, 3) := by decide +kernel
theorem dL_law__821 : decode cL_law_ 821 = .ok (.istore 6, 2) := by decide +kernel
theorem dL_law__823 : decode cL_law_ 823 = .ok (.aload_n 2, 1) := by decide +kernel
theorem dL_law__824 : decode cL_law_ 824 = .ok (.invokevirtual 146, 3) := by decide +kernel
theorem dL_law__827 : decode cL_law_ 827 = .ok (.iload 5, 2) := by decide +kernel
theorem dL_law__829 : decode cL_law_ 829 = .ok (.if_icmp .eq 5, 3) := by decide +kernel
theorem dL_law__832 : decode cL_law_ 832 = .ok (.iconst 0, 1) := by decide +kernel
theorem dL_law__833 : decode cL_law_ 833 = .ok (.ireturn, 1) := by decide +kernel
theorem dL_law__834 : decode cL_law_ 834 = .ok (.iload 5, 2) := by decide +kernel
theorem dL_law__836 : decode cL_law_ 836 = .ok (.ifCond .ne 15, 3) := by decide +kernel
theorem dL_law__839 : decode cL_law_ 839 = .ok (.aload_n 3, 1) := by decide +kernel
theorem dL_law__840 : decode cL_law_ 840 = .ok (.iconst 0, 1) := by decide +kernel
theorem dL_law__841 : decode cL_law_ 841 = .ok (.laload, 1) := by decide +kernel
theorem dL_law__842 : decode cL_law_ 842 = .ok (.iload 6, 2) := by decide +kernel
theorem dL_law__844 : decode cL_law_ 844 = .ok (.i2l, 1) := by decide +kernel
theorem dL_law__845 : decode cL_law_ 845 = .ok (.lcmp, 1) := by decide +kernel
theorem dL_law__846 : decode cL_law_ 846 = .ok (.ifCond .eq 5, 3) := by decide +kernel
theorem dL_law__849 : decode cL_law_ 849 = .ok (.iconst 0, 1) := by decide +kernel
theorem dL_law__850 : decode cL_law_ 850 = .ok (.ireturn, 1) := by decide +kernel
theorem dL_law__851 : decode cL_law_ 851 = .ok (.goto 1890, 3) := by decide +kernel
theorem dL_law__854 : decode cL_law_ 854 = .ok (.aload_n 1, 1) := by decide +kernel
theorem dL_law__855 : decode cL_law_ 855 = .ok (.aload_n 0, 1) := by decide +kernel
theorem dL_law__856 : decode cL_law_ 856 = .ok (.iload 4, 2) := by decide +kernel
theorem dL_law__858 : decode cL_law_ 858 = .ok (.iconst 1, 1) := by decide +kernel
theorem dL_law__859 : decode cL_law_ 859 = .ok (.iadd, 1) := by decide +kernel
theorem dL_law__860 : decode cL_law_ 860 = .ok (.iaload, 1) := by decide +kernel
theorem dL_law__861 : decode cL_law_ 861 = .ok (.invokevirtual 179, 3) := by decide +kernel
theorem dL_law__864 : decode cL_law_ 864 = .ok (.aload_n 2, 1) := by decide +kernel
theorem dL_law__865 : decode cL_law_ 865 = .ok (.aload_n 0, 1) := by decide +kernel
theorem dL_law__866 : decode cL_law_ 866 = .ok (.iload 4, 2) := by decide +kernel
theorem dL_law__868 : decode cL_law_ 868 = .ok (.iconst 1, 1) := by decide +kernel
theorem dL_law__869 : decode cL_law_ 869 = .ok (.iadd, 1) := by decide +kernel
theorem dL_law__870 : decode cL_law_ 870 = .ok (.iaload, 1) := by decide +kernel
theorem dL_law__871 : decode cL_law_ 871 = .ok (.invokevirtual 182, 3) := by decide +kernel
theorem dL_law__874 : decode cL_law_ 874 = .ok (.goto 1867, 3) := by decide +kernel
theorem dL_law__877 : decode cL_law_ 877 = .ok (.aload_n 1, 1) := by decide +kernel
theorem dL_law__878 : decode cL_law_ 878 = .ok (.aload_n 0, 1) := by decide +kernel
theorem dL_law__879 : decode cL_law_ 879 = .ok (.iload 4, 2) := by decide +kernel
theorem dL_law__881 : decode cL_law_ 881 = .ok (.iconst 1, 1) := by decide +kernel
theorem dL_law__882 : decode cL_law_ 882 = .ok (.iadd, 1) := by decide +kernel
theorem dL_law__883 : decode cL_law_ 883 = .ok (.iaload, 1) := by decide +kernel
theorem dL_law__884 : decode cL_law_ 884 = .ok (.aload_n 3, 1) := by decide +kernel
theorem dL_law__885 : decode cL_law_ 885 = .ok (.invokestatic 183, 3) := by decide +kernel
theorem dL_law__888 : decode cL_law_ 888 = .ok (.istore 5, 2) := by decide +kernel
theorem dL_law__890 : decode cL_law_ 890 = .ok (.aload_n 2, 1) := by decide +kernel
theorem dL_law__891 : decode cL_law_ 891 = .ok (.aload_n 0, 1) := by decide +kernel
theorem dL_law__892 : decode cL_law_ 892 = .ok (.iload 4, 2) := by decide +kernel
theorem dL_law__894 : decode cL_law_ 894 = .ok (.iconst 1, 1) := by decide +kernel
theorem dL_law__895 : decode cL_law_ 895 = .ok (.iadd, 1) := by decide +kernel
theorem dL_law__896 : decode cL_law_ 896 = .ok (.iaload, 1) := by decide +kernel
theorem dL_law__897 : decode cL_law_ 897 = .ok (.invokevirtual 185, 3) := by decide +kernel
theorem dL_law__900 : decode cL_law_ 900 = .ok (.istore 6, 2) := by decide +kernel
theorem dL_law__902 : decode cL_law_ 902 = .ok (.aload_n 2, 1) := by decide +kernel
theorem dL_law__903 : decode cL_law_ 903 = .ok (.invokevirtual 146, 3) := by decide +kernel
theorem dL_law__906 : decode cL_law_ 906 = .ok (.iload 5, 2) := by decide +kernel
theorem dL_law__908 : decode cL_law_ 908 = .ok (.if_icmp .eq 5, 3) := by decide +kernel
theorem dL_law__911 : decode cL_law_ 911 = .ok (.iconst 0, 1) := by decide +kernel
theorem dL_law__912 : decode cL_law_ 912 = .ok (.ireturn, 1) := by decide +kernel
theorem dL_law__913 : decode cL_law_ 913 = .ok (.iload 5, 2) := by decide +kernel
theorem dL_law__915 : decode cL_law_ 915 = .ok (.ifCond .ne 15, 3) := by decide +kernel
theorem dL_law__918 : decode cL_law_ 918 = .ok (.aload_n 3, 1) := by decide +kernel
theorem dL_law__919 : decode cL_law_ 919 = .ok (.iconst 0, 1) := by decide +kernel
theorem dL_law__920 : decode cL_law_ 920 = .ok (.laload, 1) := by decide +kernel
theorem dL_law__921 : decode cL_law_ 921 = .ok (.iload 6, 2) := by decide +kernel
theorem dL_law__923 : decode cL_law_ 923 = .ok (.i2l, 1) := by decide +kernel
theorem dL_law__924 : decode cL_law_ 924 = .ok (.lcmp, 1) := by decide +kernel
theorem dL_law__925 : decode cL_law_ 925 = .ok (.ifCond .eq 5, 3) := by decide +kernel
theorem dL_law__928 : decode cL_law_ 928 = .ok (.iconst 0, 1) := by decide +kernel
theorem dL_law__929 : decode cL_law_ 929 = .ok (.ireturn, 1) := by decide +kernel
theorem dL_law__930 : decode cL_law_ 930 = .ok (.goto 1811, 3) := by decide +kernel
theorem dL_law__933 : decode cL_law_ 933 = .ok (.aload_n 1, 1) := by decide +kernel
theorem dL_law__934 : decode cL_law_ 934 = .ok (.aload_n 0, 1) := by decide +kernel
theorem dL_law__935 : decode cL_law_ 935 = .ok (.iload 4, 2) := by decide +kernel
theorem dL_law__937 : decode cL_law_ 937 = .ok (.iconst 1, 1) := by decide +kernel
theorem dL_law__938 : decode cL_law_ 938 = .ok (.iadd, 1) := by decide +kernel
theorem dL_law__939 : decode cL_law_ 939 = .ok (.iaload, 1) := by decide +kernel
theorem dL_law__940 : decode cL_law_ 940 = .ok (.aload_n 0, 1) := by decide +kernel
theorem dL_law__941 : decode cL_law_ 941 = .ok (.iload 4, 2) := by decide +kernel
theorem dL_law__943 : decode cL_law_ 943 = .ok (.iconst 2, 1) := by decide +kernel
theorem dL_law__944 : decode cL_law_ 944 = .ok (.iadd, 1) := by decide +kernel
theorem dL_law__945 : decode cL_law_ 945 = .ok (.iaload, 1) := by decide +kernel
theorem dL_law__946 : decode cL_law_ 946 = .ok (.aload_n 0, 1) := by decide +kernel
theorem dL_law__947 : decode cL_law_ 947 = .ok (.iload 4, 2) := by decide +kernel
theorem dL_law__949 : decode cL_law_ 949 = .ok (.iconst 3, 1) := by decide +kernel
theorem dL_law__950 : decode cL_law_ 950 = .ok (.iadd, 1) := by decide +kernel
theorem dL_law__951 : decode cL_law_ 951 = .ok (.iaload, 1) := by decide +kernel
theorem dL_law__952 : decode cL_law_ 952 = .ok (.aload_n 3, 1) := by decide +kernel
theorem dL_law__953 : decode cL_law_ 953 = .ok (.invokestatic 186, 3) := by decide +kernel
theorem dL_law__956 : decode cL_law_ 956 = .ok (.istore 5, 2) := by decide +kernel
theorem dL_law__958 : decode cL_law_ 958 = .ok (.aload_n 2, 1) := by decide +kernel
theorem dL_law__959 : decode cL_law_ 959 = .ok (.aload_n 0, 1) := by decide +kernel
theorem dL_law__960 : decode cL_law_ 960 = .ok (.iload 4, 2) := by decide +kernel
theorem dL_law__962 : decode cL_law_ 962 = .ok (.iconst 1, 1) := by decide +kernel
theorem dL_law__963 : decode cL_law_ 963 = .ok (.iadd, 1) := by decide +kernel
theorem dL_law__964 : decode cL_law_ 964 = .ok (.iaload, 1) := by decide +kernel
theorem dL_law__965 : decode cL_law_ 965 = .ok (.aload_n 0, 1) := by decide +kernel
theorem dL_law__966 : decode cL_law_ 966 = .ok (.iload 4, 2) := by decide +kernel
theorem dL_law__968 : decode cL_law_ 968 = .ok (.iconst 2, 1) := by decide +kernel
theorem dL_law__969 : decode cL_law_ 969 = .ok (.iadd, 1) := by decide +kernel
theorem dL_law__970 : decode cL_law_ 970 = .ok (.iaload, 1) := by decide +kernel
theorem dL_law__971 : decode cL_law_ 971 = .ok (.aload_n 0, 1) := by decide +kernel
theorem dL_law__972 : decode cL_law_ 972 = .ok (.iload 4, 2) := by decide +kernel
theorem dL_law__974 : decode cL_law_ 974 = .ok (.iconst 3, 1) := by decide +kernel
theorem dL_law__975 : decode cL_law_ 975 = .ok (.iadd, 1) := by decide +kernel
theorem dL_law__976 : decode cL_law_ 976 = .ok (.iaload, 1) := by decide +kernel
theorem dL_law__977 : decode cL_law_ 977 = .ok (.invokevirtual 189, 3) := by decide +kernel
theorem dL_law__980 : decode cL_law_ 980 = .ok (.istore 6, 2) := by decide +kernel
theorem dL_law__982 : decode cL_law_ 982 = .ok (.aload_n 2, 1) := by decide +kernel
theorem dL_law__983 : decode cL_law_ 983 = .ok (.invokevirtual 146, 3) := by decide +kernel
theorem dL_law__986 : decode cL_law_ 986 = .ok (.iload 5, 2) := by decide +kernel
theorem dL_law__988 : decode cL_law_ 988 = .ok (.if_icmp .eq 5, 3) := by decide +kernel
theorem dL_law__991 : decode cL_law_ 991 = .ok (.iconst 0, 1) := by decide +kernel
theorem dL_law__992 : decode cL_law_ 992 = .ok (.ireturn, 1) := by decide +kernel
theorem dL_law__993 : decode cL_law_ 993 = .ok (.iload 5, 2) := by decide +kernel
theorem dL_law__995 : decode cL_law_ 995 = .ok (.ifCond .ne 15, 3) := by decide +kernel
theorem dL_law__998 : decode cL_law_ 998 = .ok (.aload_n 3, 1) := by decide +kernel
theorem dL_law__999 : decode cL_law_ 999 = .ok (.iconst 0, 1) := by decide +kernel
theorem dL_law__1000 : decode cL_law_ 1000 = .ok (.laload, 1) := by decide +kernel
theorem dL_law__1001 : decode cL_law_ 1001 = .ok (.iload 6, 2) := by decide +kernel
theorem dL_law__1003 : decode cL_law_ 1003 = .ok (.i2l, 1) := by decide +kernel
theorem dL_law__1004 : decode cL_law_ 1004 = .ok (.lcmp, 1) := by decide +kernel
theorem dL_law__1005 : decode cL_law_ 1005 = .ok (.ifCond .eq 5, 3) := by decide +kernel
theorem dL_law__1008 : decode cL_law_ 1008 = .ok (.iconst 0, 1) := by decide +kernel
theorem dL_law__1009 : decode cL_law_ 1009 = .ok (.ireturn, 1) := by decide +kernel
theorem dL_law__1010 : decode cL_law_ 1010 = .ok (.goto 1731, 3) := by decide +kernel
theorem dL_law__1013 : decode cL_law_ 1013 = .ok (.aload_n 1, 1) := by decide +kernel
theorem dL_law__1014 : decode cL_law_ 1014 = .ok (.aload_n 0, 1) := by decide +kernel
theorem dL_law__1015 : decode cL_law_ 1015 = .ok (.iload 4, 2) := by decide +kernel
theorem dL_law__1017 : decode cL_law_ 1017 = .ok (.iconst 1, 1) := by decide +kernel
theorem dL_law__1018 : decode cL_law_ 1018 = .ok (.iadd, 1) := by decide +kernel
theorem dL_law__1019 : decode cL_law_ 1019 = .ok (.iaload, 1) := by decide +kernel
theorem dL_law__1020 : decode cL_law_ 1020 = .ok (.aload_n 0, 1) := by decide +kernel
theorem dL_law__1021 : decode cL_law_ 1021 = .ok (.iload 4, 2) := by decide +kernel
theorem dL_law__1023 : decode cL_law_ 1023 = .ok (.iconst 2, 1) := by decide +kernel
theorem dL_law__1024 : decode cL_law_ 1024 = .ok (.iadd, 1) := by decide +kernel
theorem dL_law__1025 : decode cL_law_ 1025 = .ok (.iaload, 1) := by decide +kernel
theorem dL_law__1026 : decode cL_law_ 1026 = .ok (.aload_n 0, 1) := by decide +kernel
theorem dL_law__1027 : decode cL_law_ 1027 = .ok (.iload 4, 2) := by decide +kernel
theorem dL_law__1029 : decode cL_law_ 1029 = .ok (.iconst 3, 1) := by decide +kernel
theorem dL_law__1030 : decode cL_law_ 1030 = .ok (.iadd, 1) := by decide +kernel
theorem dL_law__1031 : decode cL_law_ 1031 = .ok (.iaload, 1) := by decide +kernel
theorem dL_law__1032 : decode cL_law_ 1032 = .ok (.aload_n 0, 1) := by decide +kernel
theorem dL_law__1033 : decode cL_law_ 1033 = .ok (.iload 4, 2) := by decide +kernel
theorem dL_law__1035 : decode cL_law_ 1035 = .ok (.iconst 4, 1) := by decide +kernel
theorem dL_law__1036 : decode cL_law_ 1036 = .ok (.iadd, 1) := by decide +kernel
theorem dL_law__1037 : decode cL_law_ 1037 = .ok (.iaload, 1) := by decide +kernel
theorem dL_law__1038 : decode cL_law_ 1038 = .ok (.aload_n 3, 1) := by decide +kernel
theorem dL_law__1039 : decode cL_law_ 1039 = .ok (.invokestatic 190, 3) := by decide +kernel
theorem dL_law__1042 : decode cL_law_ 1042 = .ok (.istore 5, 2) := by decide +kernel
theorem dL_law__1044 : decode cL_law_ 1044 = .ok (.aload_n 2, 1) := by decide +kernel
theorem dL_law__1045 : decode cL_law_ 1045 = .ok (.aload_n 0, 1) := by decide +kernel
theorem dL_law__1046 : decode cL_law_ 1046 = .ok (.iload 4, 2) := by decide +kernel
theorem dL_law__1048 : decode cL_law_ 1048 = .ok (.iconst 1, 1) := by decide +kernel
theorem dL_law__1049 : decode cL_law_ 1049 = .ok (.iadd, 1) := by decide +kernel
theorem dL_law__1050 : decode cL_law_ 1050 = .ok (.iaload, 1) := by decide +kernel
theorem dL_law__1051 : decode cL_law_ 1051 = .ok (.aload_n 0, 1) := by decide +kernel
theorem dL_law__1052 : decode cL_law_ 1052 = .ok (.iload 4, 2) := by decide +kernel
theorem dL_law__1054 : decode cL_law_ 1054 = .ok (.iconst 2, 1) := by decide +kernel
theorem dL_law__1055 : decode cL_law_ 1055 = .ok (.iadd, 1) := by decide +kernel
theorem dL_law__1056 : decode cL_law_ 1056 = .ok (.iaload, 1) := by decide +kernel
theorem dL_law__1057 : decode cL_law_ 1057 = .ok (.aload_n 0, 1) := by decide +kernel
theorem dL_law__1058 : decode cL_law_ 1058 = .ok (.iload 4, 2) := by decide +kernel
theorem dL_law__1060 : decode cL_law_ 1060 = .ok (.iconst 3, 1) := by decide +kernel
theorem dL_law__1061 : decode cL_law_ 1061 = .ok (.iadd, 1) := by decide +kernel
theorem dL_law__1062 : decode cL_law_ 1062 = .ok (.iaload, 1) := by decide +kernel
theorem dL_law__1063 : decode cL_law_ 1063 = .ok (.aload_n 0, 1) := by decide +kernel
theorem dL_law__1064 : decode cL_law_ 1064 = .ok (.iload 4, 2) := by decide +kernel
theorem dL_law__1066 : decode cL_law_ 1066 = .ok (.iconst 4, 1) := by decide +kernel
theorem dL_law__1067 : decode cL_law_ 1067 = .ok (.iadd, 1) := by decide +kernel
theorem dL_law__1068 : decode cL_law_ 1068 = .ok (.iaload, 1) := by decide +kernel
theorem dL_law__1069 : decode cL_law_ 1069 = .ok (.invokevirtual 192, 3) := by decide +kernel
theorem dL_law__1072 : decode cL_law_ 1072 = .ok (.istore 6, 2) := by decide +kernel
theorem dL_law__1074 : decode cL_law_ 1074 = .ok (.aload_n 2, 1) := by decide +kernel
theorem dL_law__1075 : decode cL_law_ 1075 = .ok (.invokevirtual 146, 3) := by decide +kernel
theorem dL_law__1078 : decode cL_law_ 1078 = .ok (.iload 5, 2) := by decide +kernel
theorem dL_law__1080 : decode cL_law_ 1080 = .ok (.if_icmp .eq 5, 3) := by decide +kernel
theorem dL_law__1083 : decode cL_law_ 1083 = .ok (.iconst 0, 1) := by decide +kernel
theorem dL_law__1084 : decode cL_law_ 1084 = .ok (.ireturn, 1) := by decide +kernel
theorem dL_law__1085 : decode cL_law_ 1085 = .ok (.iload 5, 2) := by decide +kernel
theorem dL_law__1087 : decode cL_law_ 1087 = .ok (.ifCond .ne 15, 3) := by decide +kernel
theorem dL_law__1090 : decode cL_law_ 1090 = .ok (.aload_n 3, 1) := by decide +kernel
theorem dL_law__1091 : decode cL_law_ 1091 = .ok (.iconst 0, 1) := by decide +kernel
theorem dL_law__1092 : decode cL_law_ 1092 = .ok (.laload, 1) := by decide +kernel
theorem dL_law__1093 : decode cL_law_ 1093 = .ok (.iload 6, 2) := by decide +kernel
theorem dL_law__1095 : decode cL_law_ 1095 = .ok (.i2l, 1) := by decide +kernel
theorem dL_law__1096 : decode cL_law_ 1096 = .ok (.lcmp, 1) := by decide +kernel
theorem dL_law__1097 : decode cL_law_ 1097 = .ok (.ifCond .eq 5, 3) := by decide +kernel
theorem dL_law__1100 : decode cL_law_ 1100 = .ok (.iconst 0, 1) := by decide +kernel
theorem dL_law__1101 : decode cL_law_ 1101 = .ok (.ireturn, 1) := by decide +kernel
theorem dL_law__1102 : decode cL_law_ 1102 = .ok (.goto 1639, 3) := by decide +kernel
theorem dL_law__1105 : decode cL_law_ 1105 = .ok (.aload_n 1, 1) := by decide +kernel
theorem dL_law__1106 : decode cL_law_ 1106 = .ok (.aload_n 0, 1) := by decide +kernel
theorem dL_law__1107 : decode cL_law_ 1107 = .ok (.iload 4, 2) := by decide +kernel
theorem dL_law__1109 : decode cL_law_ 1109 = .ok (.iconst 1, 1) := by decide +kernel
theorem dL_law__1110 : decode cL_law_ 1110 = .ok (.iadd, 1) := by decide +kernel
theorem dL_law__1111 : decode cL_law_ 1111 = .ok (.iaload, 1) := by decide +kernel
theorem dL_law__1112 : decode cL_law_ 1112 = .ok (.aload_n 0, 1) := by decide +kernel
theorem dL_law__1113 : decode cL_law_ 1113 = .ok (.iload 4, 2) := by decide +kernel
theorem dL_law__1115 : decode cL_law_ 1115 = .ok (.iconst 2, 1) := by decide +kernel
theorem dL_law__1116 : decode cL_law_ 1116 = .ok (.iadd, 1) := by decide +kernel
theorem dL_law__1117 : decode cL_law_ 1117 = .ok (.iaload, 1) := by decide +kernel
theorem dL_law__1118 : decode cL_law_ 1118 = .ok (.aload_n 3, 1) := by decide +kernel
theorem dL_law__1119 : decode cL_law_ 1119 = .ok (.invokestatic 193, 3) := by decide +kernel
theorem dL_law__1122 : decode cL_law_ 1122 = .ok (.istore 5, 2) := by decide +kernel
theorem dL_law__1124 : decode cL_law_ 1124 = .ok (.aload_n 2, 1) := by decide +kernel
theorem dL_law__1125 : decode cL_law_ 1125 = .ok (.aload_n 0, 1) := by decide +kernel
theorem dL_law__1126 : decode cL_law_ 1126 = .ok (.iload 4, 2) := by decide +kernel
theorem dL_law__1128 : decode cL_law_ 1128 = .ok (.iconst 1, 1) := by decide +kernel
theorem dL_law__1129 : decode cL_law_ 1129 = .ok (.iadd, 1) := by decide +kernel
theorem dL_law__1130 : decode cL_law_ 1130 = .ok (.iaload, 1) := by decide +kernel
theorem dL_law__1131 : decode cL_law_ 1131 = .ok (.aload_n 0, 1) := by decide +kernel
theorem dL_law__1132 : decode cL_law_ 1132 = .ok (.iload 4, 2) := by decide +kernel
theorem dL_law__1134 : decode cL_law_ 1134 = .ok (.iconst 2, 1) := by decide +kernel
theorem dL_law__1135 : decode cL_law_ 1135 = .ok (.iadd, 1) := by decide +kernel
theorem dL_law__1136 : decode cL_law_ 1136 = .ok (.iaload, 1) := by decide +kernel
theorem dL_law__1137 : decode cL_law_ 1137 = .ok (.invokevirtual 195, 3) := by decide +kernel
theorem dL_law__1140 : decode cL_law_ 1140 = .ok (.istore 6, 2) := by decide +kernel
theorem dL_law__1142 : decode cL_law_ 1142 = .ok (.aload_n 2, 1) := by decide +kernel
theorem dL_law__1143 : decode cL_law_ 1143 = .ok (.invokevirtual 146, 3) := by decide +kernel
theorem dL_law__1146 : decode cL_law_ 1146 = .ok (.iload 5, 2) := by decide +kernel
theorem dL_law__1148 : decode cL_law_ 1148 = .ok (.if_icmp .eq 5, 3) := by decide +kernel
theorem dL_law__1151 : decode cL_law_ 1151 = .ok (.iconst 0, 1) := by decide +kernel
theorem dL_law__1152 : decode cL_law_ 1152 = .ok (.ireturn, 1) := by decide +kernel
theorem dL_law__1153 : decode cL_law_ 1153 = .ok (.iload 5, 2) := by decide +kernel
theorem dL_law__1155 : decode cL_law_ 1155 = .ok (.ifCond .ne 15, 3) := by decide +kernel
theorem dL_law__1158 : decode cL_law_ 1158 = .ok (.aload_n 3, 1) := by decide +kernel
theorem dL_law__1159 : decode cL_law_ 1159 = .ok (.iconst 0, 1) := by decide +kernel
theorem dL_law__1160 : decode cL_law_ 1160 = .ok (.laload, 1) := by decide +kernel
theorem dL_law__1161 : decode cL_law_ 1161 = .ok (.iload 6, 2) := by decide +kernel
theorem dL_law__1163 : decode cL_law_ 1163 = .ok (.i2l, 1) := by decide +kernel
theorem dL_law__1164 : decode cL_law_ 1164 = .ok (.lcmp, 1) := by decide +kernel
theorem dL_law__1165 : decode cL_law_ 1165 = .ok (.ifCond .eq 5, 3) := by decide +kernel
theorem dL_law__1168 : decode cL_law_ 1168 = .ok (.iconst 0, 1) := by decide +kernel
theorem dL_law__1169 : decode cL_law_ 1169 = .ok (.ireturn, 1) := by decide +kernel
theorem dL_law__1170 : decode cL_law_ 1170 = .ok (.goto 1571, 3) := by decide +kernel
theorem dL_law__1173 : decode cL_law_ 1173 = .ok (.aload_n 1, 1) := by decide +kernel
theorem dL_law__1174 : decode cL_law_ 1174 = .ok (.aload_n 0, 1) := by decide +kernel
theorem dL_law__1175 : decode cL_law_ 1175 = .ok (.iload 4, 2) := by decide +kernel
theorem dL_law__1177 : decode cL_law_ 1177 = .ok (.iconst 1, 1) := by decide +kernel
theorem dL_law__1178 : decode cL_law_ 1178 = .ok (.iadd, 1) := by decide +kernel
theorem dL_law__1179 : decode cL_law_ 1179 = .ok (.iaload, 1) := by decide +kernel
theorem dL_law__1180 : decode cL_law_ 1180 = .ok (.aload_n 0, 1) := by decide +kernel
theorem dL_law__1181 : decode cL_law_ 1181 = .ok (.iload 4, 2) := by decide +kernel
theorem dL_law__1183 : decode cL_law_ 1183 = .ok (.iconst 2, 1) := by decide +kernel
theorem dL_law__1184 : decode cL_law_ 1184 = .ok (.iadd, 1) := by decide +kernel
theorem dL_law__1185 : decode cL_law_ 1185 = .ok (.iaload, 1) := by decide +kernel
theorem dL_law__1186 : decode cL_law_ 1186 = .ok (.aload_n 0, 1) := by decide +kernel
theorem dL_law__1187 : decode cL_law_ 1187 = .ok (.iload 4, 2) := by decide +kernel
theorem dL_law__1189 : decode cL_law_ 1189 = .ok (.iconst 3, 1) := by decide +kernel
theorem dL_law__1190 : decode cL_law_ 1190 = .ok (.iadd, 1) := by decide +kernel
theorem dL_law__1191 : decode cL_law_ 1191 = .ok (.iaload, 1) := by decide +kernel
theorem dL_law__1192 : decode cL_law_ 1192 = .ok (.invokestatic 196, 3) := by decide +kernel
theorem dL_law__1195 : decode cL_law_ 1195 = .ok (.istore 5, 2) := by decide +kernel
theorem dL_law__1197 : decode cL_law_ 1197 = .ok (.aload_n 2, 1) := by decide +kernel
theorem dL_law__1198 : decode cL_law_ 1198 = .ok (.aload_n 0, 1) := by decide +kernel
theorem dL_law__1199 : decode cL_law_ 1199 = .ok (.iload 4, 2) := by decide +kernel
theorem dL_law__1201 : decode cL_law_ 1201 = .ok (.iconst 1, 1) := by decide +kernel
theorem dL_law__1202 : decode cL_law_ 1202 = .ok (.iadd, 1) := by decide +kernel
theorem dL_law__1203 : decode cL_law_ 1203 = .ok (.iaload, 1) := by decide +kernel
theorem dL_law__1204 : decode cL_law_ 1204 = .ok (.aload_n 0, 1) := by decide +kernel
theorem dL_law__1205 : decode cL_law_ 1205 = .ok (.iload 4, 2) := by decide +kernel
theorem dL_law__1207 : decode cL_law_ 1207 = .ok (.iconst 2, 1) := by decide +kernel
theorem dL_law__1208 : decode cL_law_ 1208 = .ok (.iadd, 1) := by decide +kernel
theorem dL_law__1209 : decode cL_law_ 1209 = .ok (.iaload, 1) := by decide +kernel
theorem dL_law__1210 : decode cL_law_ 1210 = .ok (.aload_n 0, 1) := by decide +kernel
theorem dL_law__1211 : decode cL_law_ 1211 = .ok (.iload 4, 2) := by decide +kernel
theorem dL_law__1213 : decode cL_law_ 1213 = .ok (.iconst 3, 1) := by decide +kernel
theorem dL_law__1214 : decode cL_law_ 1214 = .ok (.iadd, 1) := by decide +kernel
theorem dL_law__1215 : decode cL_law_ 1215 = .ok (.iaload, 1) := by decide +kernel
theorem dL_law__1216 : decode cL_law_ 1216 = .ok (.invokevirtual 198, 3) := by decide +kernel
theorem dL_law__1219 : decode cL_law_ 1219 = .ok (.aload_n 2, 1) := by decide +kernel
theorem dL_law__1220 : decode cL_law_ 1220 = .ok (.invokevirtual 146, 3) := by decide +kernel
theorem dL_law__1223 : decode cL_law_ 1223 = .ok (.iload 5, 2) := by decide +kernel
theorem dL_law__1225 : decode cL_law_ 1225 = .ok (.if_icmp .eq 5, 3) := by decide +kernel
theorem dL_law__1228 : decode cL_law_ 1228 = .ok (.iconst 0, 1) := by decide +kernel
theorem dL_law__1229 : decode cL_law_ 1229 = .ok (.ireturn, 1) := by decide +kernel
theorem dL_law__1230 : decode cL_law_ 1230 = .ok (.goto 1511, 3) := by decide +kernel
theorem dL_law__1233 : decode cL_law_ 1233 = .ok (.aload_n 1, 1) := by decide +kernel
theorem dL_law__1234 : decode cL_law_ 1234 = .ok (.aload_n 0, 1) := by decide +kernel
theorem dL_law__1235 : decode cL_law_ 1235 = .ok (.iload 4, 2) := by decide +kernel
theorem dL_law__1237 : decode cL_law_ 1237 = .ok (.iconst 1, 1) := by decide +kernel
theorem dL_law__1238 : decode cL_law_ 1238 = .ok (.iadd, 1) := by decide +kernel
theorem dL_law__1239 : decode cL_law_ 1239 = .ok (.iaload, 1) := by decide +kernel
theorem dL_law__1240 : decode cL_law_ 1240 = .ok (.aload_n 0, 1) := by decide +kernel
theorem dL_law__1241 : decode cL_law_ 1241 = .ok (.iload 4, 2) := by decide +kernel
theorem dL_law__1243 : decode cL_law_ 1243 = .ok (.iconst 2, 1) := by decide +kernel
theorem dL_law__1244 : decode cL_law_ 1244 = .ok (.iadd, 1) := by decide +kernel
theorem dL_law__1245 : decode cL_law_ 1245 = .ok (.iaload, 1) := by decide +kernel
theorem dL_law__1246 : decode cL_law_ 1246 = .ok (.invokestatic 199, 3) := by decide +kernel
theorem dL_law__1249 : decode cL_law_ 1249 = .ok (.istore 5, 2) := by decide +kernel
theorem dL_law__1251 : decode cL_law_ 1251 = .ok (.aload_n 2, 1) := by decide +kernel
theorem dL_law__1252 : decode cL_law_ 1252 = .ok (.aload_n 0, 1) := by decide +kernel
theorem dL_law__1253 : decode cL_law_ 1253 = .ok (.iload 4, 2) := by decide +kernel
theorem dL_law__1255 : decode cL_law_ 1255 = .ok (.iconst 1, 1) := by decide +kernel
theorem dL_law__1256 : decode cL_law_ 1256 = .ok (.iadd, 1) := by decide +kernel
theorem dL_law__1257 : decode cL_law_ 1257 = .ok (.iaload, 1) := by decide +kernel
theorem dL_law__1258 : decode cL_law_ 1258 = .ok (.aload_n 0, 1) := by decide +kernel
theorem dL_law__1259 : decode cL_law_ 1259 = .ok (.iload 4, 2) := by decide +kernel
theorem dL_law__1261 : decode cL_law_ 1261 = .ok (.iconst 2, 1) := by decide +kernel
theorem dL_law__1262 : decode cL_law_ 1262 = .ok (.iadd, 1) := by decide +kernel
theorem dL_law__1263 : decode cL_law_ 1263 = .ok (.iaload, 1) := by decide +kernel
theorem dL_law__1264 : decode cL_law_ 1264 = .ok (.invokevirtual 202, 3) := by decide +kernel
theorem dL_law__1267 : decode cL_law_ 1267 = .ok (.aload_n 2, 1) := by decide +kernel
theorem dL_law__1268 : decode cL_law_ 1268 = .ok (.invokevirtual 146, 3) := by decide +kernel
theorem dL_law__1271 : decode cL_law_ 1271 = .ok (.iload 5, 2) := by decide +kernel
theorem dL_law__1273 : decode cL_law_ 1273 = .ok (.if_icmp .eq 5, 3) := by decide +kernel
theorem dL_law__1276 : decode cL_law_ 1276 = .ok (.iconst 0, 1) := by decide +kernel
theorem dL_law__1277 : decode cL_law_ 1277 = .ok (.ireturn, 1) := by decide +kernel
theorem dL_law__1278 : decode cL_law_ 1278 = .ok (.goto 1463, 3) := by decide +kernel
theorem dL_law__1281 : decode cL_law_ 1281 = .ok (.aload_n 1, 1) := by decide +kernel
theorem dL_law__1282 : decode cL_law_ 1282 = .ok (.aload_n 0, 1) := by decide +kernel
theorem dL_law__1283 : decode cL_law_ 1283 = .ok (.iload 4, 2) := by decide +kernel
theorem dL_law__1285 : decode cL_law_ 1285 = .ok (.iconst 1, 1) := by decide +kernel
theorem dL_law__1286 : decode cL_law_ 1286 = .ok (.iadd, 1) := by decide +kernel
theorem dL_law__1287 : decode cL_law_ 1287 = .ok (.iaload, 1) := by decide +kernel
theorem dL_law__1288 : decode cL_law_ 1288 = .ok (.aload_n 3, 1) := by decide +kernel
theorem dL_law__1289 : decode cL_law_ 1289 = .ok (.invokestatic 203, 3) := by decide +kernel
theorem dL_law__1292 : decode cL_law_ 1292 = .ok (.istore 5, 2) := by decide +kernel
theorem dL_law__1294 : decode cL_law_ 1294 = .ok (.aload_n 2, 1) := by decide +kernel
theorem dL_law__1295 : decode cL_law_ 1295 = .ok (.aload_n 0, 1) := by decide +kernel
theorem dL_law__1296 : decode cL_law_ 1296 = .ok (.iload 4, 2) := by decide +kernel
theorem dL_law__1298 : decode cL_law_ 1298 = .ok (.iconst 1, 1) := by decide +kernel
theorem dL_law__1299 : decode cL_law_ 1299 = .ok (.iadd, 1) := by decide +kernel
theorem dL_law__1300 : decode cL_law_ 1300 = .ok (.iaload, 1) := by decide +kernel
theorem dL_law__1301 : decode cL_law_ 1301 = .ok (.invokevirtual 205, 3) := by decide +kernel
theorem dL_law__1304 : decode cL_law_ 1304 = .ok (.istore 6, 2) := by decide +kernel
theorem dL_law__1306 : decode cL_law_ 1306 = .ok (.aload_n 2, 1) := by decide +kernel
theorem dL_law__1307 : decode cL_law_ 1307 = .ok (.invokevirtual 146, 3) := by decide +kernel
theorem dL_law__1310 : decode cL_law_ 1310 = .ok (.iload 5, 2) := by decide +kernel
theorem dL_law__1312 : decode cL_law_ 1312 = .ok (.if_icmp .eq 5, 3) := by decide +kernel
theorem dL_law__1315 : decode cL_law_ 1315 = .ok (.iconst 0, 1) := by decide +kernel
theorem dL_law__1316 : decode cL_law_ 1316 = .ok (.ireturn, 1) := by decide +kernel
theorem dL_law__1317 : decode cL_law_ 1317 = .ok (.iload 5, 2) := by decide +kernel
theorem dL_law__1319 : decode cL_law_ 1319 = .ok (.ifCond .ne 15, 3) := by decide +kernel
theorem dL_law__1322 : decode cL_law_ 1322 = .ok (.aload_n 3, 1) := by decide +kernel
theorem dL_law__1323 : decode cL_law_ 1323 = .ok (.iconst 0, 1) := by decide +kernel
theorem dL_law__1324 : decode cL_law_ 1324 = .ok (.laload, 1) := by decide +kernel
theorem dL_law__1325 : decode cL_law_ 1325 = .ok (.iload 6, 2) := by decide +kernel
theorem dL_law__1327 : decode cL_law_ 1327 = .ok (.i2l, 1) := by decide +kernel
theorem dL_law__1328 : decode cL_law_ 1328 = .ok (.lcmp, 1) := by decide +kernel
theorem dL_law__1329 : decode cL_law_ 1329 = .ok (.ifCond .eq 5, 3) := by decide +kernel
theorem dL_law__1332 : decode cL_law_ 1332 = .ok (.iconst 0, 1) := by decide +kernel
theorem dL_law__1333 : decode cL_law_ 1333 = .ok (.ireturn, 1) := by decide +kernel
theorem dL_law__1334 : decode cL_law_ 1334 = .ok (.goto 1407, 3) := by decide +kernel
theorem dL_law__1337 : decode cL_law_ 1337 = .ok (.aload_n 1, 1) := by decide +kernel
theorem dL_law__1338 : decode cL_law_ 1338 = .ok (.invokevirtual 206, 3) := by decide +kernel
theorem dL_law__1341 : decode cL_law_ 1341 = .ok (.aload_n 2, 1) := by decide +kernel
theorem dL_law__1342 : decode cL_law_ 1342 = .ok (.invokevirtual 209, 3) := by decide +kernel
theorem dL_law__1345 : decode cL_law_ 1345 = .ok (.if_icmp .eq 1396, 3) := by decide +kernel
theorem dL_law__1348 : decode cL_law_ 1348 = .ok (.iconst 0, 1) := by decide +kernel
theorem dL_law__1349 : decode cL_law_ 1349 = .ok (.ireturn, 1) := by decide +kernel
theorem dL_law__1350 : decode cL_law_ 1350 = .ok (.aload_n 1, 1) := by decide +kernel
theorem dL_law__1351 : decode cL_law_ 1351 = .ok (.aload_n 0, 1) := by decide +kernel
theorem dL_law__1352 : decode cL_law_ 1352 = .ok (.iload 4, 2) := by decide +kernel
theorem dL_law__1354 : decode cL_law_ 1354 = .ok (.iconst 1, 1) := by decide +kernel
theorem dL_law__1355 : decode cL_law_ 1355 = .ok (.iadd, 1) := by decide +kernel
theorem dL_law__1356 : decode cL_law_ 1356 = .ok (.iaload, 1) := by decide +kernel
theorem dL_law__1357 : decode cL_law_ 1357 = .ok (.aload_n 0, 1) := by decide +kernel
theorem dL_law__1358 : decode cL_law_ 1358 = .ok (.iload 4, 2) := by decide +kernel
theorem dL_law__1360 : decode cL_law_ 1360 = .ok (.iconst 2, 1) := by decide +kernel
theorem dL_law__1361 : decode cL_law_ 1361 = .ok (.iadd, 1) := by decide +kernel
theorem dL_law__1362 : decode cL_law_ 1362 = .ok (.iaload, 1) := by decide +kernel
theorem dL_law__1363 : decode cL_law_ 1363 = .ok (.aload_n 3, 1) := by decide +kernel
theorem dL_law__1364 : decode cL_law_ 1364 = .ok (.invokestatic 210, 3) := by decide +kernel
theorem dL_law__1367 : decode cL_law_ 1367 = .ok (.istore 5, 2) := by decide +kernel
theorem dL_law__1369 : decode cL_law_ 1369 = .ok (.aload_n 2, 1) := by decide +kernel
theorem dL_law__1370 : decode cL_law_ 1370 = .ok (.aload_n 0, 1) := by decide +kernel
theorem dL_law__1371 : decode cL_law_ 1371 = .ok (.iload 4, 2) := by decide +kernel
theorem dL_law__1373 : decode cL_law_ 1373 = .ok (.iconst 1, 1) := by decide +kernel
theorem dL_law__1374 : decode cL_law_ 1374 = .ok (.iadd, 1) := by decide +kernel
theorem dL_law__1375 : decode cL_law_ 1375 = .ok (.iaload, 1) := by decide +kernel
theorem dL_law__1376 : decode cL_law_ 1376 = .ok (.aload_n 0, 1) := by decide +kernel
theorem dL_law__1377 : decode cL_law_ 1377 = .ok (.iload 4, 2) := by decide +kernel
theorem dL_law__1379 : decode cL_law_ 1379 = .ok (.iconst 2, 1) := by decide +kernel
theorem dL_law__1380 : decode cL_law_ 1380 = .ok (.iadd, 1) := by decide +kernel
theorem dL_law__1381 : decode cL_law_ 1381 = .ok (.iaload, 1) := by decide +kernel
theorem dL_law__1382 : decode cL_law_ 1382 = .ok (.invokevirtual 212, 3) := by decide +kernel
theorem dL_law__1385 : decode cL_law_ 1385 = .ok (.istore 6, 2) := by decide +kernel
theorem dL_law__1387 : decode cL_law_ 1387 = .ok (.aload_n 2, 1) := by decide +kernel
theorem dL_law__1388 : decode cL_law_ 1388 = .ok (.invokevirtual 146, 3) := by decide +kernel
theorem dL_law__1391 : decode cL_law_ 1391 = .ok (.iload 5, 2) := by decide +kernel
theorem dL_law__1393 : decode cL_law_ 1393 = .ok (.if_icmp .eq 5, 3) := by decide +kernel
theorem dL_law__1396 : decode cL_law_ 1396 = .ok (.iconst 0, 1) := by decide +kernel
theorem dL_law__1397 : decode cL_law_ 1397 = .ok (.ireturn, 1) := by decide +kernel
theorem dL_law__1398 : decode cL_law_ 1398 = .ok (.iload 5, 2) := by decide +kernel
theorem dL_law__1400 : decode cL_law_ 1400 = .ok (.ifCond .ne 15, 3) := by decide +kernel
theorem dL_law__1403 : decode cL_law_ 1403 = .ok (.aload_n 3, 1) := by decide +kernel
theorem dL_law__1404 : decode cL_law_ 1404 = .ok (.iconst 0, 1) := by decide +kernel
theorem dL_law__1405 : decode cL_law_ 1405 = .ok (.laload, 1) := by decide +kernel
theorem dL_law__1406 : decode cL_law_ 1406 = .ok (.iload 6, 2) := by decide +kernel
theorem dL_law__1408 : decode cL_law_ 1408 = .ok (.i2l, 1) := by decide +kernel
theorem dL_law__1409 : decode cL_law_ 1409 = .ok (.lcmp, 1) := by decide +kernel
theorem dL_law__1410 : decode cL_law_ 1410 = .ok (.ifCond .eq 5, 3) := by decide +kernel
theorem dL_law__1413 : decode cL_law_ 1413 = .ok (.iconst 0, 1) := by decide +kernel
theorem dL_law__1414 : decode cL_law_ 1414 = .ok (.ireturn, 1) := by decide +kernel
theorem dL_law__1415 : decode cL_law_ 1415 = .ok (.goto 1326, 3) := by decide +kernel
theorem dL_law__1418 : decode cL_law_ 1418 = .ok (.aload_n 1, 1) := by decide +kernel
theorem dL_law__1419 : decode cL_law_ 1419 = .ok (.aload_n 0, 1) := by decide +kernel
theorem dL_law__1420 : decode cL_law_ 1420 = .ok (.iload 4, 2) := by decide +kernel
theorem dL_law__1422 : decode cL_law_ 1422 = .ok (.iconst 1, 1) := by decide +kernel
theorem dL_law__1423 : decode cL_law_ 1423 = .ok (.iadd, 1) := by decide +kernel
theorem dL_law__1424 : decode cL_law_ 1424 = .ok (.iaload, 1) := by decide +kernel
theorem dL_law__1425 : decode cL_law_ 1425 = .ok (.aload_n 0, 1) := by decide +kernel
theorem dL_law__1426 : decode cL_law_ 1426 = .ok (.iload 4, 2) := by decide +kernel
theorem dL_law__1428 : decode cL_law_ 1428 = .ok (.iconst 2, 1) := by decide +kernel
theorem dL_law__1429 : decode cL_law_ 1429 = .ok (.iadd, 1) := by decide +kernel
theorem dL_law__1430 : decode cL_law_ 1430 = .ok (.iaload, 1) := by decide +kernel
theorem dL_law__1431 : decode cL_law_ 1431 = .ok (.aload_n 0, 1) := by decide +kernel
theorem dL_law__1432 : decode cL_law_ 1432 = .ok (.iload 4, 2) := by decide +kernel
theorem dL_law__1434 : decode cL_law_ 1434 = .ok (.iconst 3, 1) := by decide +kernel
theorem dL_law__1435 : decode cL_law_ 1435 = .ok (.iadd, 1) := by decide +kernel
theorem dL_law__1436 : decode cL_law_ 1436 = .ok (.iaload, 1) := by decide +kernel
theorem dL_law__1437 : decode cL_law_ 1437 = .ok (.aload_n 3, 1) := by decide +kernel
theorem dL_law__1438 : decode cL_law_ 1438 = .ok (.invokestatic 213, 3) := by decide +kernel
theorem dL_law__1441 : decode cL_law_ 1441 = .ok (.istore 5, 2) := by decide +kernel
theorem dL_law__1443 : decode cL_law_ 1443 = .ok (.aload_n 2, 1) := by decide +kernel
theorem dL_law__1444 : decode cL_law_ 1444 = .ok (.aload_n 0, 1) := by decide +kernel
theorem dL_law__1445 : decode cL_law_ 1445 = .ok (.iload 4, 2) := by decide +kernel
theorem dL_law__1447 : decode cL_law_ 1447 = .ok (.iconst 1, 1) := by decide +kernel
theorem dL_law__1448 : decode cL_law_ 1448 = .ok (.iadd, 1) := by decide +kernel
theorem dL_law__1449 : decode cL_law_ 1449 = .ok (.iaload, 1) := by decide +kernel
theorem dL_law__1450 : decode cL_law_ 1450 = .ok (.aload_n 0, 1) := by decide +kernel
theorem dL_law__1451 : decode cL_law_ 1451 = .ok (.iload 4, 2) := by decide +kernel
theorem dL_law__1453 : decode cL_law_ 1453 = .ok (.iconst 2, 1) := by decide +kernel
theorem dL_law__1454 : decode cL_law_ 1454 = .ok (.iadd, 1) := by decide +kernel
theorem dL_law__1455 : decode cL_law_ 1455 = .ok (.iaload, 1) := by decide +kernel
theorem dL_law__1456 : decode cL_law_ 1456 = .ok (.aload_n 0, 1) := by decide +kernel
theorem dL_law__1457 : decode cL_law_ 1457 = .ok (.iload 4, 2) := by decide +kernel
theorem dL_law__1459 : decode cL_law_ 1459 = .ok (.iconst 3, 1) := by decide +kernel
theorem dL_law__1460 : decode cL_law_ 1460 = .ok (.iadd, 1) := by decide +kernel
theorem dL_law__1461 : decode cL_law_ 1461 = .ok (.iaload, 1) := by decide +kernel
theorem dL_law__1462 : decode cL_law_ 1462 = .ok (.invokevirtual 215, 3) := by decide +kernel
theorem dL_law__1465 : decode cL_law_ 1465 = .ok (.istore 6, 2) := by decide +kernel
theorem dL_law__1467 : decode cL_law_ 1467 = .ok (.aload_n 2, 1) := by decide +kernel
theorem dL_law__1468 : decode cL_law_ 1468 = .ok (.invokevirtual 146, 3) := by decide +kernel
theorem dL_law__1471 : decode cL_law_ 1471 = .ok (.iload 5, 2) := by decide +kernel
theorem dL_law__1473 : decode cL_law_ 1473 = .ok (.if_icmp .eq 5, 3) := by decide +kernel
theorem dL_law__1476 : decode cL_law_ 1476 = .ok (.iconst 0, 1) := by decide +kernel
theorem dL_law__1477 : decode cL_law_ 1477 = .ok (.ireturn, 1) := by decide +kernel
theorem dL_law__1478 : decode cL_law_ 1478 = .ok (.iload 5, 2) := by decide +kernel
theorem dL_law__1480 : decode cL_law_ 1480 = .ok (.ifCond .ne 15, 3) := by decide +kernel
theorem dL_law__1483 : decode cL_law_ 1483 = .ok (.aload_n 3, 1) := by decide +kernel
theorem dL_law__1484 : decode cL_law_ 1484 = .ok (.iconst 0, 1) := by decide +kernel
theorem dL_law__1485 : decode cL_law_ 1485 = .ok (.laload, 1) := by decide +kernel
theorem dL_law__1486 : decode cL_law_ 1486 = .ok (.iload 6, 2) := by decide +kernel
theorem dL_law__1488 : decode cL_law_ 1488 = .ok (.i2l, 1) := by decide +kernel
theorem dL_law__1489 : decode cL_law_ 1489 = .ok (.lcmp, 1) := by decide +kernel
theorem dL_law__1490 : decode cL_law_ 1490 = .ok (.ifCond .eq 5, 3) := by decide +kernel
theorem dL_law__1493 : decode cL_law_ 1493 = .ok (.iconst 0, 1) := by decide +kernel
theorem dL_law__1494 : decode cL_law_ 1494 = .ok (.ireturn, 1) := by decide +kernel
theorem dL_law__1495 : decode cL_law_ 1495 = .ok (.goto 1246, 3) := by decide +kernel
theorem dL_law__1498 : decode cL_law_ 1498 = .ok (.aload_n 1, 1) := by decide +kernel
theorem dL_law__1499 : decode cL_law_ 1499 = .ok (.aload_n 0, 1) := by decide +kernel
theorem dL_law__1500 : decode cL_law_ 1500 = .ok (.iload 4, 2) := by decide +kernel
theorem dL_law__1502 : decode cL_law_ 1502 = .ok (.iconst 1, 1) := by decide +kernel
theorem dL_law__1503 : decode cL_law_ 1503 = .ok (.iadd, 1) := by decide +kernel
theorem dL_law__1504 : decode cL_law_ 1504 = .ok (.iaload, 1) := by decide +kernel
theorem dL_law__1505 : decode cL_law_ 1505 = .ok (.aload_n 3, 1) := by decide +kernel
theorem dL_law__1506 : decode cL_law_ 1506 = .ok (.invokestatic 216, 3) := by decide +kernel
theorem dL_law__1509 : decode cL_law_ 1509 = .ok (.istore 5, 2) := by decide +kernel
theorem dL_law__1511 : decode cL_law_ 1511 = .ok (.aload_n 2, 1) := by decide +kernel
theorem dL_law__1512 : decode cL_law_ 1512 = .ok (.aload_n 0, 1) := by decide +kernel
theorem dL_law__1513 : decode cL_law_ 1513 = .ok (.iload 4, 2) := by decide +kernel
theorem dL_law__1515 : decode cL_law_ 1515 = .ok (.iconst 1, 1) := by decide +kernel
theorem dL_law__1516 : decode cL_law_ 1516 = .ok (.iadd, 1) := by decide +kernel
theorem dL_law__1517 : decode cL_law_ 1517 = .ok (.iaload, 1) := by decide +kernel
theorem dL_law__1518 : decode cL_law_ 1518 = .ok (.invokevirtual 218, 3) := by decide +kernel
theorem dL_law__1521 : decode cL_law_ 1521 = .ok (.istore 6, 2) := by decide +kernel
theorem dL_law__1523 : decode cL_law_ 1523 = .ok (.aload_n 2, 1) := by decide +kernel
theorem dL_law__1524 : decode cL_law_ 1524 = .ok (.invokevirtual 146, 3) := by decide +kernel
theorem dL_law__1527 : decode cL_law_ 1527 = .ok (.iload 5, 2) := by decide +kernel
theorem dL_law__1529 : decode cL_law_ 1529 = .ok (.if_icmp .eq 5, 3) := by decide +kernel
theorem dL_law__1532 : decode cL_law_ 1532 = .ok (.iconst 0, 1) := by decide +kernel
theorem dL_law__1533 : decode cL_law_ 1533 = .ok (.ireturn, 1) := by decide +kernel
theorem dL_law__1534 : decode cL_law_ 1534 = .ok (.iload 5, 2) := by decide +kernel
theorem dL_law__1536 : decode cL_law_ 1536 = .ok (.ifCond .ne 15, 3) := by decide +kernel
theorem dL_law__1539 : decode cL_law_ 1539 = .ok (.aload_n 3, 1) := by decide +kernel
theorem dL_law__1540 : decode cL_law_ 1540 = .ok (.iconst 0, 1) := by decide +kernel
theorem dL_law__1541 : decode cL_law_ 1541 = .ok (.laload, 1) := by decide +kernel
theorem dL_law__1542 : decode cL_law_ 1542 = .ok (.iload 6, 2) := by decide +kernel
theorem dL_law__1544 : decode cL_law_ 1544 = .ok (.i2l, 1) := by decide +kernel
theorem dL_law__1545 : decode cL_law_ 1545 = .ok (.lcmp, 1) := by decide +kernel
theorem dL_law__1546 : decode cL_law_ 1546 = .ok (.ifCond .eq 5, 3) := by decide +kernel
theorem dL_law__1549 : decode cL_law_ 1549 = .ok (.iconst 0, 1) := by decide +kernel
theorem dL_law__1550 : decode cL_law_ 1550 = .ok (.ireturn, 1) := by decide +kernel
theorem dL_law__1551 : decode cL_law_ 1551 = .ok (.goto 1190, 3) := by decide +kernel
theorem dL_law__1554 : decode cL_law_ 1554 = .ok (.aload_n 1, 1) := by decide +kernel
theorem dL_law__1555 : decode cL_law_ 1555 = .ok (.aload_n 0, 1) := by decide +kernel
theorem dL_law__1556 : decode cL_law_ 1556 = .ok (.iload 4, 2) := by decide +kernel
theorem dL_law__1558 : decode cL_law_ 1558 = .ok (.iconst 1, 1) := by decide +kernel
theorem dL_law__1559 : decode cL_law_ 1559 = .ok (.iadd, 1) := by decide +kernel
theorem dL_law__1560 : decode cL_law_ 1560 = .ok (.iaload, 1) := by decide +kernel
theorem dL_law__1561 : decode cL_law_ 1561 = .ok (.aload_n 0, 1) := by decide +kernel
theorem dL_law__1562 : decode cL_law_ 1562 = .ok (.iload 4, 2) := by decide +kernel
theorem dL_law__1564 : decode cL_law_ 1564 = .ok (.iconst 2, 1) := by decide +kernel
theorem dL_law__1565 : decode cL_law_ 1565 = .ok (.iadd, 1) := by decide +kernel
theorem dL_law__1566 : decode cL_law_ 1566 = .ok (.iaload, 1) := by decide +kernel
theorem dL_law__1567 : decode cL_law_ 1567 = .ok (.aload_n 3, 1) := by decide +kernel
theorem dL_law__1568 : decode cL_law_ 1568 = .ok (.invokestatic 219, 3) := by decide +kernel
theorem dL_law__1571 : decode cL_law_ 1571 = .ok (.istore 5, 2) := by decide +kernel
theorem dL_law__1573 : decode cL_law_ 1573 = .ok (.aload_n 2, 1) := by decide +kernel
theorem dL_law__1574 : decode cL_law_ 1574 = .ok (.aload_n 0, 1) := by decide +kernel
theorem dL_law__1575 : decode cL_law_ 1575 = .ok (.iload 4, 2) := by decide +kernel
theorem dL_law__1577 : decode cL_law_ 1577 = .ok (.iconst 1, 1) := by decide +kernel
theorem dL_law__1578 : decode cL_law_ 1578 = .ok (.iadd, 1) := by decide +kernel
theorem dL_law__1579 : decode cL_law_ 1579 = .ok (.iaload, 1) := by decide +kernel
theorem dL_law__1580 : decode cL_law_ 1580 = .ok (.aload_n 0, 1) := by decide +kernel
theorem dL_law__1581 : decode cL_law_ 1581 = .ok (.iload 4, 2) := by decide +kernel
theorem dL_law__1583 : decode cL_law_ 1583 = .ok (.iconst 2, 1) := by decide +kernel
theorem dL_law__1584 : decode cL_law_ 1584 = .ok (.iadd, 1) := by decide +kernel
theorem dL_law__1585 : decode cL_law_ 1585 = .ok (.iaload, 1) := by decide +kernel
theorem dL_law__1586 : decode cL_law_ 1586 = .ok (.invokevirtual 221, 3) := by decide +kernel
theorem dL_law__1589 : decode cL_law_ 1589 = .ok (.istore 6, 2) := by decide +kernel
theorem dL_law__1591 : decode cL_law_ 1591 = .ok (.aload_n 2, 1) := by decide +kernel
theorem dL_law__1592 : decode cL_law_ 1592 = .ok (.invokevirtual 146, 3) := by decide +kernel
theorem dL_law__1595 : decode cL_law_ 1595 = .ok (.iload 5, 2) := by decide +kernel
theorem dL_law__1597 : decode cL_law_ 1597 = .ok (.if_icmp .eq 5, 3) := by decide +kernel
theorem dL_law__1600 : decode cL_law_ 1600 = .ok (.iconst 0, 1) := by decide +kernel
theorem dL_law__1601 : decode cL_law_ 1601 = .ok (.ireturn, 1) := by decide +kernel
theorem dL_law__1602 : decode cL_law_ 1602 = .ok (.iload 5, 2) := by decide +kernel
theorem dL_law__1604 : decode cL_law_ 1604 = .ok (.ifCond .ne 15, 3) := by decide +kernel
theorem dL_law__1607 : decode cL_law_ 1607 = .ok (.aload_n 3, 1) := by decide +kernel
theorem dL_law__1608 : decode cL_law_ 1608 = .ok (.iconst 0, 1) := by decide +kernel
theorem dL_law__1609 : decode cL_law_ 1609 = .ok (.laload, 1) := by decide +kernel
theorem dL_law__1610 : decode cL_law_ 1610 = .ok (.iload 6, 2) := by decide +kernel
theorem dL_law__1612 : decode cL_law_ 1612 = .ok (.i2l, 1) := by decide +kernel
theorem dL_law__1613 : decode cL_law_ 1613 = .ok (.lcmp, 1) := by decide +kernel
theorem dL_law__1614 : decode cL_law_ 1614 = .ok (.ifCond .eq 5, 3) := by decide +kernel
theorem dL_law__1617 : decode cL_law_ 1617 = .ok (.iconst 0, 1) := by decide +kernel
theorem dL_law__1618 : decode cL_law_ 1618 = .ok (.ireturn, 1) := by decide +kernel
theorem dL_law__1619 : decode cL_law_ 1619 = .ok (.goto 1122, 3) := by decide +kernel
theorem dL_law__1622 : decode cL_law_ 1622 = .ok (.aload_n 1, 1) := by decide +kernel
theorem dL_law__1623 : decode cL_law_ 1623 = .ok (.aload_n 0, 1) := by decide +kernel
theorem dL_law__1624 : decode cL_law_ 1624 = .ok (.iload 4, 2) := by decide +kernel
theorem dL_law__1626 : decode cL_law_ 1626 = .ok (.iconst 1, 1) := by decide +kernel
theorem dL_law__1627 : decode cL_law_ 1627 = .ok (.iadd, 1) := by decide +kernel
theorem dL_law__1628 : decode cL_law_ 1628 = .ok (.iaload, 1) := by decide +kernel
theorem dL_law__1629 : decode cL_law_ 1629 = .ok (.aload_n 0, 1) := by decide +kernel
theorem dL_law__1630 : decode cL_law_ 1630 = .ok (.iload 4, 2) := by decide +kernel
theorem dL_law__1632 : decode cL_law_ 1632 = .ok (.iconst 2, 1) := by decide +kernel
theorem dL_law__1633 : decode cL_law_ 1633 = .ok (.iadd, 1) := by decide +kernel
theorem dL_law__1634 : decode cL_law_ 1634 = .ok (.iaload, 1) := by decide +kernel
theorem dL_law__1635 : decode cL_law_ 1635 = .ok (.aload_n 0, 1) := by decide +kernel
theorem dL_law__1636 : decode cL_law_ 1636 = .ok (.iload 4, 2) := by decide +kernel
theorem dL_law__1638 : decode cL_law_ 1638 = .ok (.iconst 3, 1) := by decide +kernel
theorem dL_law__1639 : decode cL_law_ 1639 = .ok (.iadd, 1) := by decide +kernel
theorem dL_law__1640 : decode cL_law_ 1640 = .ok (.iaload, 1) := by decide +kernel
theorem dL_law__1641 : decode cL_law_ 1641 = .ok (.aload_n 0, 1) := by decide +kernel
theorem dL_law__1642 : decode cL_law_ 1642 = .ok (.iload 4, 2) := by decide +kernel
theorem dL_law__1644 : decode cL_law_ 1644 = .ok (.iconst 4, 1) := by decide +kernel
theorem dL_law__1645 : decode cL_law_ 1645 = .ok (.iadd, 1) := by decide +kernel
theorem dL_law__1646 : decode cL_law_ 1646 = .ok (.iaload, 1) := by decide +kernel
theorem dL_law__1647 : decode cL_law_ 1647 = .ok (.ifCond .eq 7, 3) := by decide +kernel
theorem dL_law__1650 : decode cL_law_ 1650 = .ok (.iconst 1, 1) := by decide +kernel
theorem dL_law__1651 : decode cL_law_ 1651 = .ok (.goto 4, 3) := by decide +kernel
theorem dL_law__1654 : decode cL_law_ 1654 = .ok (.iconst 0, 1) := by decide +kernel
theorem dL_law__1655 : decode cL_law_ 1655 = .ok (.aload_n 3, 1) := by decide +kernel
theorem dL_law__1656 : decode cL_law_ 1656 = .ok (.invokestatic 222, 3) := by decide +kernel
theorem dL_law__1659 : decode cL_law_ 1659 = .ok (.istore 5, 2) := by decide +kernel
theorem dL_law__1661 : decode cL_law_ 1661 = .ok (.aload_n 2, 1) := by decide +kernel
theorem dL_law__1662 : decode cL_law_ 1662 = .ok (.aload_n 0, 1) := by decide +kernel
theorem dL_law__1663 : decode cL_law_ 1663 = .ok (.iload 4, 2) := by decide +kernel
theorem dL_law__1665 : decode cL_law_ 1665 = .ok (.iconst 1, 1) := by decide +kernel
theorem dL_law__1666 : decode cL_law_ 1666 = .ok (.iadd, 1) := by decide +kernel
theorem dL_law__1667 : decode cL_law_ 1667 = .ok (.iaload, 1) := by decide +kernel
theorem dL_law__1668 : decode cL_law_ 1668 = .ok (.aload_n 0, 1) := by decide +kernel
theorem dL_law__1669 : decode cL_law_ 1669 = .ok (.iload 4, 2) := by decide +kernel
theorem dL_law__1671 : decode cL_law_ 1671 = .ok (.iconst 2, 1) := by decide +kernel
theorem dL_law__1672 : decode cL_law_ 1672 = .ok (.iadd, 1) := by decide +kernel
theorem dL_law__1673 : decode cL_law_ 1673 = .ok (.iaload, 1) := by decide +kernel
theorem dL_law__1674 : decode cL_law_ 1674 = .ok (.aload_n 0, 1) := by decide +kernel
theorem dL_law__1675 : decode cL_law_ 1675 = .ok (.iload 4, 2) := by decide +kernel
theorem dL_law__1677 : decode cL_law_ 1677 = .ok (.iconst 3, 1) := by decide +kernel
theorem dL_law__1678 : decode cL_law_ 1678 = .ok (.iadd, 1) := by decide +kernel
theorem dL_law__1679 : decode cL_law_ 1679 = .ok (.iaload, 1) := by decide +kernel
theorem dL_law__1680 : decode cL_law_ 1680 = .ok (.aload_n 0, 1) := by decide +kernel
theorem dL_law__1681 : decode cL_law_ 1681 = .ok (.iload 4, 2) := by decide +kernel
theorem dL_law__1683 : decode cL_law_ 1683 = .ok (.iconst 4, 1) := by decide +kernel
theorem dL_law__1684 : decode cL_law_ 1684 = .ok (.iadd, 1) := by decide +kernel
theorem dL_law__1685 : decode cL_law_ 1685 = .ok (.iaload, 1) := by decide +kernel
theorem dL_law__1686 : decode cL_law_ 1686 = .ok (.ifCond .eq 7, 3) := by decide +kernel
theorem dL_law__1689 : decode cL_law_ 1689 = .ok (.iconst 1, 1) := by decide +kernel
theorem dL_law__1690 : decode cL_law_ 1690 = .ok (.goto 4, 3) := by decide +kernel
theorem dL_law__1693 : decode cL_law_ 1693 = .ok (.iconst 0, 1) := by decide +kernel
theorem dL_law__1694 : decode cL_law_ 1694 = .ok (.invokevirtual 225, 3) := by decide +kernel
theorem dL_law__1697 : decode cL_law_ 1697 = .ok (.istore 6, 2) := by decide +kernel
theorem dL_law__1699 : decode cL_law_ 1699 = .ok (.aload_n 2, 1) := by decide +kernel
theorem dL_law__1700 : decode cL_law_ 1700 = .ok (.invokevirtual 146, 3) := by decide +kernel
theorem dL_law__1703 : decode cL_law_ 1703 = .ok (.iload 5, 2) := by decide +kernel
theorem dL_law__1705 : decode cL_law_ 1705 = .ok (.if_icmp .eq 5, 3) := by decide +kernel
theorem dL_law__1708 : decode cL_law_ 1708 = .ok (.iconst 0, 1) := by decide +kernel
theorem dL_law__1709 : decode cL_law_ 1709 = .ok (.ireturn, 1) := by decide +kernel
theorem dL_law__1710 : decode cL_law_ 1710 = .ok (.iload 5, 2) := by decide +kernel
theorem dL_law__1712 : decode cL_law_ 1712 = .ok (.ifCond .ne 15, 3) := by decide +kernel
theorem dL_law__1715 : decode cL_law_ 1715 = .ok (.aload_n 3, 1) := by decide +kernel
theorem dL_law__1716 : decode cL_law_ 1716 = .ok (.iconst 0, 1) := by decide +kernel
theorem dL_law__1717 : decode cL_law_ 1717 = .ok (.laload, 1) := by decide +kernel
theorem dL_law__1718 : decode cL_law_ 1718 = .ok (.iload 6, 2) := by decide +kernel
theorem dL_law__1720 : decode cL_law_ 1720 = .ok (.i2l, 1) := by decide +kernel
theorem dL_law__1721 : decode cL_law_ 1721 = .ok (.lcmp, 1) := by decide +kernel
theorem dL_law__1722 : decode cL_law_ 1722 = .ok (.ifCond .eq 5, 3) := by decide +kernel
theorem dL_law__1725 : decode cL_law_ 1725 = .ok (.iconst 0, 1) := by decide +kernel
theorem dL_law__1726 : decode cL_law_ 1726 = .ok (.ireturn, 1) := by decide +kernel
theorem dL_law__1727 : decode cL_law_ 1727 = .ok (.goto 1014, 3) := by decide +kernel
theorem dL_law__1730 : decode cL_law_ 1730 = .ok (.aload_n 1, 1) := by decide +kernel
theorem dL_law__1731 : decode cL_law_ 1731 = .ok (.aload_n 0, 1) := by decide +kernel
theorem dL_law__1732 : decode cL_law_ 1732 = .ok (.iload 4, 2) := by decide +kernel
theorem dL_law__1734 : decode cL_law_ 1734 = .ok (.iconst 1, 1) := by decide +kernel
theorem dL_law__1735 : decode cL_law_ 1735 = .ok (.iadd, 1) := by decide +kernel
theorem dL_law__1736 : decode cL_law_ 1736 = .ok (.iaload, 1) := by decide +kernel
theorem dL_law__1737 : decode cL_law_ 1737 = .ok (.aload_n 0, 1) := by decide +kernel
theorem dL_law__1738 : decode cL_law_ 1738 = .ok (.iload 4, 2) := by decide +kernel
theorem dL_law__1740 : decode cL_law_ 1740 = .ok (.iconst 2, 1) := by decide +kernel
theorem dL_law__1741 : decode cL_law_ 1741 = .ok (.iadd, 1) := by decide +kernel
theorem dL_law__1742 : decode cL_law_ 1742 = .ok (.iaload, 1) := by decide +kernel
theorem dL_law__1743 : decode cL_law_ 1743 = .ok (.ifCond .eq 7, 3) := by decide +kernel
theorem dL_law__1746 : decode cL_law_ 1746 = .ok (.iconst 1, 1) := by decide +kernel
theorem dL_law__1747 : decode cL_law_ 1747 = .ok (.goto 4, 3) := by decide +kernel
theorem dL_law__1750 : decode cL_law_ 1750 = .ok (.iconst 0, 1) := by decide +kernel
theorem dL_law__1751 : decode cL_law_ 1751 = .ok (.aload_n 3, 1) := by decide +kernel
theorem dL_law__1752 : decode cL_law_ 1752 = .ok (.invokestatic 226, 3) := by decide +kernel
theorem dL_law__1755 : decode cL_law_ 1755 = .ok (.istore 5, 2) := by decide +kernel
theorem dL_law__1757 : decode cL_law_ 1757 = .ok (.aload_n 2, 1) := by decide +kernel
theorem dL_law__1758 : decode cL_law_ 1758 = .ok (.aload_n 0, 1) := by decide +kernel
theorem dL_law__1759 : decode cL_law_ 1759 = .ok (.iload 4, 2) := by decide +kernel
theorem dL_law__1761 : decode cL_law_ 1761 = .ok (.iconst 1, 1) := by decide +kernel
theorem dL_law__1762 : decode cL_law_ 1762 = .ok (.iadd, 1) := by decide +kernel
theorem dL_law__1763 : decode cL_law_ 1763 = .ok (.iaload, 1) := by decide +kernel
theorem dL_law__1764 : decode cL_law_ 1764 = .ok (.aload_n 0, 1) := by decide +kernel
theorem dL_law__1765 : decode cL_law_ 1765 = .ok (.iload 4, 2) := by decide +kernel
theorem dL_law__1767 : decode cL_law_ 1767 = .ok (.iconst 2, 1) := by decide +kernel
theorem dL_law__1768 : decode cL_law_ 1768 = .ok (.iadd, 1) := by decide +kernel
theorem dL_law__1769 : decode cL_law_ 1769 = .ok (.iaload, 1) := by decide +kernel
theorem dL_law__1770 : decode cL_law_ 1770 = .ok (.ifCond .eq 7, 3) := by decide +kernel
theorem dL_law__1773 : decode cL_law_ 1773 = .ok (.iconst 1, 1) := by decide +kernel
theorem dL_law__1774 : decode cL_law_ 1774 = .ok (.goto 4, 3) := by decide +kernel
theorem dL_law__1777 : decode cL_law_ 1777 = .ok (.iconst 0, 1) := by decide +kernel
theorem dL_law__1778 : decode cL_law_ 1778 = .ok (.invokevirtual 229, 3) := by decide +kernel
theorem dL_law__1781 : decode cL_law_ 1781 = .ok (.istore 6, 2) := by decide +kernel
theorem dL_law__1783 : decode cL_law_ 1783 = .ok (.aload_n 2, 1) := by decide +kernel
theorem dL_law__1784 : decode cL_law_ 1784 = .ok (.invokevirtual 146, 3) := by decide +kernel
theorem dL_law__1787 : decode cL_law_ 1787 = .ok (.iload 5, 2) := by decide +kernel
theorem dL_law__1789 : decode cL_law_ 1789 = .ok (.if_icmp .eq 5, 3) := by decide +kernel
theorem dL_law__1792 : decode cL_law_ 1792 = .ok (.iconst 0, 1) := by decide +kernel
theorem dL_law__1793 : decode cL_law_ 1793 = .ok (.ireturn, 1) := by decide +kernel
theorem dL_law__1794 : decode cL_law_ 1794 = .ok (.iload 5, 2) := by decide +kernel
theorem dL_law__1796 : decode cL_law_ 1796 = .ok (.ifCond .ne 15, 3) := by decide +kernel
theorem dL_law__1799 : decode cL_law_ 1799 = .ok (.aload_n 3, 1) := by decide +kernel
theorem dL_law__1800 : decode cL_law_ 1800 = .ok (.iconst 0, 1) := by decide +kernel
theorem dL_law__1801 : decode cL_law_ 1801 = .ok (.laload, 1) := by decide +kernel
theorem dL_law__1802 : decode cL_law_ 1802 = .ok (.iload 6, 2) := by decide +kernel
theorem dL_law__1804 : decode cL_law_ 1804 = .ok (.i2l, 1) := by decide +kernel
theorem dL_law__1805 : decode cL_law_ 1805 = .ok (.lcmp, 1) := by decide +kernel
theorem dL_law__1806 : decode cL_law_ 1806 = .ok (.ifCond .eq 5, 3) := by decide +kernel
theorem dL_law__1809 : decode cL_law_ 1809 = .ok (.iconst 0, 1) := by decide +kernel
theorem dL_law__1810 : decode cL_law_ 1810 = .ok (.ireturn, 1) := by decide +kernel
theorem dL_law__1811 : decode cL_law_ 1811 = .ok (.goto 930, 3) := by decide +kernel
theorem dL_law__1814 : decode cL_law_ 1814 = .ok (.aload_n 1, 1) := by decide +kernel
theorem dL_law__1815 : decode cL_law_ 1815 = .ok (.aload_n 0, 1) := by decide +kernel
theorem dL_law__1816 : decode cL_law_ 1816 = .ok (.iload 4, 2) := by decide +kernel
theorem dL_law__1818 : decode cL_law_ 1818 = .ok (.iconst 1, 1) := by decide +kernel
theorem dL_law__1819 : decode cL_law_ 1819 = .ok (.iadd, 1) := by decide +kernel
theorem dL_law__1820 : decode cL_law_ 1820 = .ok (.iaload, 1) := by decide +kernel
theorem dL_law__1821 : decode cL_law_ 1821 = .ok (.aload_n 0, 1) := by decide +kernel
theorem dL_law__1822 : decode cL_law_ 1822 = .ok (.iload 4, 2) := by decide +kernel
theorem dL_law__1824 : decode cL_law_ 1824 = .ok (.iconst 2, 1) := by decide +kernel
theorem dL_law__1825 : decode cL_law_ 1825 = .ok (.iadd, 1) := by decide +kernel
theorem dL_law__1826 : decode cL_law_ 1826 = .ok (.iaload, 1) := by decide +kernel
theorem dL_law__1827 : decode cL_law_ 1827 = .ok (.aload_n 0, 1) := by decide +kernel
theorem dL_law__1828 : decode cL_law_ 1828 = .ok (.iload 4, 2) := by decide +kernel
theorem dL_law__1830 : decode cL_law_ 1830 = .ok (.iconst 3, 1) := by decide +kernel
theorem dL_law__1831 : decode cL_law_ 1831 = .ok (.iadd, 1) := by decide +kernel
theorem dL_law__1832 : decode cL_law_ 1832 = .ok (.iaload, 1) := by decide +kernel
theorem dL_law__1833 : decode cL_law_ 1833 = .ok (.aload_n 0, 1) := by decide +kernel
theorem dL_law__1834 : decode cL_law_ 1834 = .ok (.iload 4, 2) := by decide +kernel
theorem dL_law__1836 : decode cL_law_ 1836 = .ok (.iconst 4, 1) := by decide +kernel
theorem dL_law__1837 : decode cL_law_ 1837 = .ok (.iadd, 1) := by decide +kernel
theorem dL_law__1838 : decode cL_law_ 1838 = .ok (.iaload, 1) := by decide +kernel
theorem dL_law__1839 : decode cL_law_ 1839 = .ok (.ifCond .eq 7, 3) := by decide +kernel
theorem dL_law__1842 : decode cL_law_ 1842 = .ok (.iconst 1, 1) := by decide +kernel
theorem dL_law__1843 : decode cL_law_ 1843 = .ok (.goto 4, 3) := by decide +kernel
theorem dL_law__1846 : decode cL_law_ 1846 = .ok (.iconst 0, 1) := by decide +kernel
theorem dL_law__1847 : decode cL_law_ 1847 = .ok (.aload_n 3, 1) := by decide +kernel
theorem dL_law__1848 : decode cL_law_ 1848 = .ok (.invokestatic 230, 3) := by decide +kernel
theorem dL_law__1851 : decode cL_law_ 1851 = .ok (.istore 5, 2) := by decide +kernel
theorem dL_law__1853 : decode cL_law_ 1853 = .ok (.aload_n 2, 1) := by decide +kernel
theorem dL_law__1854 : decode cL_law_ 1854 = .ok (.aload_n 0, 1) := by decide +kernel
theorem dL_law__1855 : decode cL_law_ 1855 = .ok (.iload 4, 2) := by decide +kernel
theorem dL_law__1857 : decode cL_law_ 1857 = .ok (.iconst 1, 1) := by decide +kernel
theorem dL_law__1858 : decode cL_law_ 1858 = .ok (.iadd, 1) := by decide +kernel
theorem dL_law__1859 : decode cL_law_ 1859 = .ok (.iaload, 1) := by decide +kernel
theorem dL_law__1860 : decode cL_law_ 1860 = .ok (.aload_n 0, 1) := by decide +kernel
theorem dL_law__1861 : decode cL_law_ 1861 = .ok (.iload 4, 2) := by decide +kernel
theorem dL_law__1863 : decode cL_law_ 1863 = .ok (.iconst 2, 1) := by decide +kernel
theorem dL_law__1864 : decode cL_law_ 1864 = .ok (.iadd, 1) := by decide +kernel
theorem dL_law__1865 : decode cL_law_ 1865 = .ok (.iaload, 1) := by decide +kernel
theorem dL_law__1866 : decode cL_law_ 1866 = .ok (.aload_n 0, 1) := by decide +kernel
theorem dL_law__1867 : decode cL_law_ 1867 = .ok (.iload 4, 2) := by decide +kernel
theorem dL_law__1869 : decode cL_law_ 1869 = .ok (.iconst 3, 1) := by decide +kernel
theorem dL_law__1870 : decode cL_law_ 1870 = .ok (.iadd, 1) := by decide +kernel
theorem dL_law__1871 : decode cL_law_ 1871 = .ok (.iaload, 1) := by decide +kernel
theorem dL_law__1872 : decode cL_law_ 1872 = .ok (.aload_n 0, 1) := by decide +kernel
theorem dL_law__1873 : decode cL_law_ 1873 = .ok (.iload 4, 2) := by decide +kernel
theorem dL_law__1875 : decode cL_law_ 1875 = .ok (.iconst 4, 1) := by decide +kernel
theorem dL_law__1876 : decode cL_law_ 1876 = .ok (.iadd, 1) := by decide +kernel
theorem dL_law__1877 : decode cL_law_ 1877 = .ok (.iaload, 1) := by decide +kernel
theorem dL_law__1878 : decode cL_law_ 1878 = .ok (.ifCond .eq 7, 3) := by decide +kernel
theorem dL_law__1881 : decode cL_law_ 1881 = .ok (.iconst 1, 1) := by decide +kernel
theorem dL_law__1882 : decode cL_law_ 1882 = .ok (.goto 4, 3) := by decide +kernel
theorem dL_law__1885 : decode cL_law_ 1885 = .ok (.iconst 0, 1) := by decide +kernel
theorem dL_law__1886 : decode cL_law_ 1886 = .ok (.invokevirtual 232, 3) := by decide +kernel
theorem dL_law__1889 : decode cL_law_ 1889 = .ok (.istore 6, 2) := by decide +kernel
theorem dL_law__1891 : decode cL_law_ 1891 = .ok (.aload_n 2, 1) := by decide +kernel
theorem dL_law__1892 : decode cL_law_ 1892 = .ok (.invokevirtual 146, 3) := by decide +kernel
theorem dL_law__1895 : decode cL_law_ 1895 = .ok (.iload 5, 2) := by decide +kernel
theorem dL_law__1897 : decode cL_law_ 1897 = .ok (.if_icmp .eq 5, 3) := by decide +kernel
theorem dL_law__1900 : decode cL_law_ 1900 = .ok (.iconst 0, 1) := by decide +kernel
theorem dL_law__1901 : decode cL_law_ 1901 = .ok (.ireturn, 1) := by decide +kernel
theorem dL_law__1902 : decode cL_law_ 1902 = .ok (.iload 5, 2) := by decide +kernel
theorem dL_law__1904 : decode cL_law_ 1904 = .ok (.ifCond .ne 15, 3) := by decide +kernel
theorem dL_law__1907 : decode cL_law_ 1907 = .ok (.aload_n 3, 1) := by decide +kernel
theorem dL_law__1908 : decode cL_law_ 1908 = .ok (.iconst 0, 1) := by decide +kernel
theorem dL_law__1909 : decode cL_law_ 1909 = .ok (.laload, 1) := by decide +kernel
theorem dL_law__1910 : decode cL_law_ 1910 = .ok (.iload 6, 2) := by decide +kernel
theorem dL_law__1912 : decode cL_law_ 1912 = .ok (.i2l, 1) := by decide +kernel
theorem dL_law__1913 : decode cL_law_ 1913 = .ok (.lcmp, 1) := by decide +kernel
theorem dL_law__1914 : decode cL_law_ 1914 = .ok (.ifCond .eq 5, 3) := by decide +kernel
theorem dL_law__1917 : decode cL_law_ 1917 = .ok (.iconst 0, 1) := by decide +kernel
theorem dL_law__1918 : decode cL_law_ 1918 = .ok (.ireturn, 1) := by decide +kernel
theorem dL_law__1919 : decode cL_law_ 1919 = .ok (.goto 822, 3) := by decide +kernel
theorem dL_law__1922 : decode cL_law_ 1922 = .ok (.aload_n 1, 1) := by decide +kernel
theorem dL_law__1923 : decode cL_law_ 1923 = .ok (.aload_n 0, 1) := by decide +kernel
theorem dL_law__1924 : decode cL_law_ 1924 = .ok (.iload 4, 2) := by decide +kernel
theorem dL_law__1926 : decode cL_law_ 1926 = .ok (.iconst 1, 1) := by decide +kernel
theorem dL_law__1927 : decode cL_law_ 1927 = .ok (.iadd, 1) := by decide +kernel
theorem dL_law__1928 : decode cL_law_ 1928 = .ok (.iaload, 1) := by decide +kernel
theorem dL_law__1929 : decode cL_law_ 1929 = .ok (.aload_n 0, 1) := by decide +kernel
theorem dL_law__1930 : decode cL_law_ 1930 = .ok (.iload 4, 2) := by decide +kernel
theorem dL_law__1932 : decode cL_law_ 1932 = .ok (.iconst 2, 1) := by decide +kernel
theorem dL_law__1933 : decode cL_law_ 1933 = .ok (.iadd, 1) := by decide +kernel
theorem dL_law__1934 : decode cL_law_ 1934 = .ok (.iaload, 1) := by decide +kernel
theorem dL_law__1935 : decode cL_law_ 1935 = .ok (.aload_n 3, 1) := by decide +kernel
theorem dL_law__1936 : decode cL_law_ 1936 = .ok (.invokestatic 233, 3) := by decide +kernel
theorem dL_law__1939 : decode cL_law_ 1939 = .ok (.istore 5, 2) := by decide +kernel
theorem dL_law__1941 : decode cL_law_ 1941 = .ok (.aload_n 2, 1) := by decide +kernel
theorem dL_law__1942 : decode cL_law_ 1942 = .ok (.aload_n 0, 1) := by decide +kernel
theorem dL_law__1943 : decode cL_law_ 1943 = .ok (.iload 4, 2) := by decide +kernel
theorem dL_law__1945 : decode cL_law_ 1945 = .ok (.iconst 1, 1) := by decide +kernel
theorem dL_law__1946 : decode cL_law_ 1946 = .ok (.iadd, 1) := by decide +kernel
theorem dL_law__1947 : decode cL_law_ 1947 = .ok (.iaload, 1) := by decide +kernel
theorem dL_law__1948 : decode cL_law_ 1948 = .ok (.aload_n 0, 1) := by decide +kernel
theorem dL_law__1949 : decode cL_law_ 1949 = .ok (.iload 4, 2) := by decide +kernel
theorem dL_law__1951 : decode cL_law_ 1951 = .ok (.iconst 2, 1) := by decide +kernel
theorem dL_law__1952 : decode cL_law_ 1952 = .ok (.iadd, 1) := by decide +kernel
theorem dL_law__1953 : decode cL_law_ 1953 = .ok (.iaload, 1) := by decide +kernel
theorem dL_law__1954 : decode cL_law_ 1954 = .ok (.invokevirtual 235, 3) := by decide +kernel
theorem dL_law__1957 : decode cL_law_ 1957 = .ok (.istore 6, 2) := by decide +kernel
theorem dL_law__1959 : decode cL_law_ 1959 = .ok (.aload_n 2, 1) := by decide +kernel
theorem dL_law__1960 : decode cL_law_ 1960 = .ok (.invokevirtual 146, 3) := by decide +kernel
theorem dL_law__1963 : decode cL_law_ 1963 = .ok (.iload 5, 2) := by decide +kernel
theorem dL_law__1965 : decode cL_law_ 1965 = .ok (.if_icmp .eq 5, 3) := by decide +kernel
theorem dL_law__1968 : decode cL_law_ 1968 = .ok (.iconst 0, 1) := by decide +kernel
theorem dL_law__1969 : decode cL_law_ 1969 = .ok (.ireturn, 1) := by decide +kernel
theorem dL_law__1970 : decode cL_law_ 1970 = .ok (.iload 5, 2) := by decide +kernel
theorem dL_law__1972 : decode cL_law_ 1972 = .ok (.ifCond .ne 15, 3) := by decide +kernel
theorem dL_law__1975 : decode cL_law_ 1975 = .ok (.aload_n 3, 1) := by decide +kernel
theorem dL_law__1976 : decode cL_law_ 1976 = .ok (.iconst 0, 1) := by decide +kernel
theorem dL_law__1977 : decode cL_law_ 1977 = .ok (.laload, 1) := by decide +kernel
theorem dL_law__1978 : decode cL_law_ 1978 = .ok (.iload 6, 2) := by decide +kernel
theorem dL_law__1980 : decode cL_law_ 1980 = .ok (.i2l, 1) := by decide +kernel
theorem dL_law__1981 : decode cL_law_ 1981 = .ok (.lcmp, 1) := by decide +kernel
theorem dL_law__1982 : decode cL_law_ 1982 = .ok (.ifCond .eq 5, 3) := by decide +kernel
theorem dL_law__1985 : decode cL_law_ 1985 = .ok (.iconst 0, 1) := by decide +kernel
theorem dL_law__1986 : decode cL_law_ 1986 = .ok (.ireturn, 1) := by decide +kernel
theorem dL_law__1987 : decode cL_law_ 1987 = .ok (.goto 754, 3) := by decide +kernel
theorem dL_law__1990 : decode cL_law_ 1990 = .ok (.aload_n 1, 1) := by decide +kernel
theorem dL_law__1991 : decode cL_law_ 1991 = .ok (.aload_n 0, 1) := by decide +kernel
theorem dL_law__1992 : decode cL_law_ 1992 = .ok (.iload 4, 2) := by decide +kernel
theorem dL_law__1994 : decode cL_law_ 1994 = .ok (.iconst 1, 1) := by decide +kernel
theorem dL_law__1995 : decode cL_law_ 1995 = .ok (.iadd, 1) := by decide +kernel
theorem dL_law__1996 : decode cL_law_ 1996 = .ok (.iaload, 1) := by decide +kernel
theorem dL_law__1997 : decode cL_law_ 1997 = .ok (.aload_n 0, 1) := by decide +kernel
theorem dL_law__1998 : decode cL_law_ 1998 = .ok (.iload 4, 2) := by decide +kernel
theorem dL_law__2000 : decode cL_law_ 2000 = .ok (.iconst 2, 1) := by decide +kernel
theorem dL_law__2001 : decode cL_law_ 2001 = .ok (.iadd, 1) := by decide +kernel
theorem dL_law__2002 : decode cL_law_ 2002 = .ok (.iaload, 1) := by decide +kernel
theorem dL_law__2003 : decode cL_law_ 2003 = .ok (.aload_n 0, 1) := by decide +kernel
theorem dL_law__2004 : decode cL_law_ 2004 = .ok (.iload 4, 2) := by decide +kernel
theorem dL_law__2006 : decode cL_law_ 2006 = .ok (.iconst 3, 1) := by decide +kernel
theorem dL_law__2007 : decode cL_law_ 2007 = .ok (.iadd, 1) := by decide +kernel
theorem dL_law__2008 : decode cL_law_ 2008 = .ok (.iaload, 1) := by decide +kernel
theorem dL_law__2009 : decode cL_law_ 2009 = .ok (.aload_n 0, 1) := by decide +kernel
theorem dL_law__2010 : decode cL_law_ 2010 = .ok (.iload 4, 2) := by decide +kernel
theorem dL_law__2012 : decode cL_law_ 2012 = .ok (.iconst 4, 1) := by decide +kernel
theorem dL_law__2013 : decode cL_law_ 2013 = .ok (.iadd, 1) := by decide +kernel
theorem dL_law__2014 : decode cL_law_ 2014 = .ok (.iaload, 1) := by decide +kernel
theorem dL_law__2015 : decode cL_law_ 2015 = .ok (.aload_n 3, 1) := by decide +kernel
theorem dL_law__2016 : decode cL_law_ 2016 = .ok (.invokestatic 236, 3) := by decide +kernel
theorem dL_law__2019 : decode cL_law_ 2019 = .ok (.istore 5, 2) := by decide +kernel
theorem dL_law__2021 : decode cL_law_ 2021 = .ok (.aload_n 2, 1) := by decide +kernel
theorem dL_law__2022 : decode cL_law_ 2022 = .ok (.aload_n 0, 1) := by decide +kernel
theorem dL_law__2023 : decode cL_law_ 2023 = .ok (.iload 4, 2) := by decide +kernel
theorem dL_law__2025 : decode cL_law_ 2025 = .ok (.iconst 1, 1) := by decide +kernel
theorem dL_law__2026 : decode cL_law_ 2026 = .ok (.iadd, 1) := by decide +kernel
theorem dL_law__2027 : decode cL_law_ 2027 = .ok (.iaload, 1) := by decide +kernel
theorem dL_law__2028 : decode cL_law_ 2028 = .ok (.aload_n 0, 1) := by decide +kernel
theorem dL_law__2029 : decode cL_law_ 2029 = .ok (.iload 4, 2) := by decide +kernel
theorem dL_law__2031 : decode cL_law_ 2031 = .ok (.iconst 2, 1) := by decide +kernel
theorem dL_law__2032 : decode cL_law_ 2032 = .ok (.iadd, 1) := by decide +kernel
theorem dL_law__2033 : decode cL_law_ 2033 = .ok (.iaload, 1) := by decide +kernel
theorem dL_law__2034 : decode cL_law_ 2034 = .ok (.aload_n 0, 1) := by decide +kernel
theorem dL_law__2035 : decode cL_law_ 2035 = .ok (.iload 4, 2) := by decide +kernel
theorem dL_law__2037 : decode cL_law_ 2037 = .ok (.iconst 3, 1) := by decide +kernel
theorem dL_law__2038 : decode cL_law_ 2038 = .ok (.iadd, 1) := by decide +kernel
theorem dL_law__2039 : decode cL_law_ 2039 = .ok (.iaload, 1) := by decide +kernel
theorem dL_law__2040 : decode cL_law_ 2040 = .ok (.aload_n 0, 1) := by decide +kernel
theorem dL_law__2041 : decode cL_law_ 2041 = .ok (.iload 4, 2) := by decide +kernel
theorem dL_law__2043 : decode cL_law_ 2043 = .ok (.iconst 4, 1) := by decide +kernel
theorem dL_law__2044 : decode cL_law_ 2044 = .ok (.iadd, 1) := by decide +kernel
theorem dL_law__2045 : decode cL_law_ 2045 = .ok (.iaload, 1) := by decide +kernel
theorem dL_law__2046 : decode cL_law_ 2046 = .ok (.invokevirtual 238, 3) := by decide +kernel
theorem dL_law__2049 : decode cL_law_ 2049 = .ok (.istore 6, 2) := by decide +kernel
theorem dL_law__2051 : decode cL_law_ 2051 = .ok (.aload_n 2, 1) := by decide +kernel
theorem dL_law__2052 : decode cL_law_ 2052 = .ok (.invokevirtual 146, 3) := by decide +kernel
theorem dL_law__2055 : decode cL_law_ 2055 = .ok (.iload 5, 2) := by decide +kernel
theorem dL_law__2057 : decode cL_law_ 2057 = .ok (.if_icmp .eq 5, 3) := by decide +kernel
theorem dL_law__2060 : decode cL_law_ 2060 = .ok (.iconst 0, 1) := by decide +kernel
theorem dL_law__2061 : decode cL_law_ 2061 = .ok (.ireturn, 1) := by decide +kernel
theorem dL_law__2062 : decode cL_law_ 2062 = .ok (.iload 5, 2) := by decide +kernel
theorem dL_law__2064 : decode cL_law_ 2064 = .ok (.ifCond .ne 15, 3) := by decide +kernel
theorem dL_law__2067 : decode cL_law_ 2067 = .ok (.aload_n 3, 1) := by decide +kernel
theorem dL_law__2068 : decode cL_law_ 2068 = .ok (.iconst 0, 1) := by decide +kernel
theorem dL_law__2069 : decode cL_law_ 2069 = .ok (.laload, 1) := by decide +kernel
theorem dL_law__2070 : decode cL_law_ 2070 = .ok (.iload 6, 2) := by decide +kernel
theorem dL_law__2072 : decode cL_law_ 2072 = .ok (.i2l, 1) := by decide +kernel
theorem dL_law__2073 : decode cL_law_ 2073 = .ok (.lcmp, 1) := by decide +kernel
theorem dL_law__2074 : decode cL_law_ 2074 = .ok (.ifCond .eq 5, 3) := by decide +kernel
theorem dL_law__2077 : decode cL_law_ 2077 = .ok (.iconst 0, 1) := by decide +kernel
theorem dL_law__2078 : decode cL_law_ 2078 = .ok (.ireturn, 1) := by decide +kernel
theorem dL_law__2079 : decode cL_law_ 2079 = .ok (.goto 662, 3) := by decide +kernel
theorem dL_law__2082 : decode cL_law_ 2082 = .ok (.aload_n 1, 1) := by decide +kernel
theorem dL_law__2083 : decode cL_law_ 2083 = .ok (.aload_n 0, 1) := by decide +kernel
theorem dL_law__2084 : decode cL_law_ 2084 = .ok (.iload 4, 2) := by decide +kernel
theorem dL_law__2086 : decode cL_law_ 2086 = .ok (.iconst 1, 1) := by decide +kernel
theorem dL_law__2087 : decode cL_law_ 2087 = .ok (.iadd, 1) := by decide +kernel
theorem dL_law__2088 : decode cL_law_ 2088 = .ok (.iaload, 1) := by decide +kernel
theorem dL_law__2089 : decode cL_law_ 2089 = .ok (.aload_n 0, 1) := by decide +kernel
theorem dL_law__2090 : decode cL_law_ 2090 = .ok (.iload 4, 2) := by decide +kernel
theorem dL_law__2092 : decode cL_law_ 2092 = .ok (.iconst 2, 1) := by decide +kernel
theorem dL_law__2093 : decode cL_law_ 2093 = .ok (.iadd, 1) := by decide +kernel
theorem dL_law__2094 : decode cL_law_ 2094 = .ok (.iaload, 1) := by decide +kernel
theorem dL_law__2095 : decode cL_law_ 2095 = .ok (.aload_n 0, 1) := by decide +kernel
theorem dL_law__2096 : decode cL_law_ 2096 = .ok (.iload 4, 2) := by decide +kernel
theorem dL_law__2098 : decode cL_law_ 2098 = .ok (.iconst 3, 1) := by decide +kernel
theorem dL_law__2099 : decode cL_law_ 2099 = .ok (.iadd, 1) := by decide +kernel
theorem dL_law__2100 : decode cL_law_ 2100 = .ok (.iaload, 1) := by decide +kernel
theorem dL_law__2101 : decode cL_law_ 2101 = .ok (.aload_n 3, 1) := by decide +kernel
theorem dL_law__2102 : decode cL_law_ 2102 = .ok (.invokestatic 239, 3) := by decide +kernel
theorem dL_law__2105 : decode cL_law_ 2105 = .ok (.istore 5, 2) := by decide +kernel
theorem dL_law__2107 : decode cL_law_ 2107 = .ok (.aload_n 2, 1) := by decide +kernel
theorem dL_law__2108 : decode cL_law_ 2108 = .ok (.aload_n 0, 1) := by decide +kernel
theorem dL_law__2109 : decode cL_law_ 2109 = .ok (.iload 4, 2) := by decide +kernel
theorem dL_law__2111 : decode cL_law_ 2111 = .ok (.iconst 1, 1) := by decide +kernel
theorem dL_law__2112 : decode cL_law_ 2112 = .ok (.iadd, 1) := by decide +kernel
theorem dL_law__2113 : decode cL_law_ 2113 = .ok (.iaload, 1) := by decide +kernel
theorem dL_law__2114 : decode cL_law_ 2114 = .ok (.aload_n 0, 1) := by decide +kernel
theorem dL_law__2115 : decode cL_law_ 2115 = .ok (.iload 4, 2) := by decide +kernel
theorem dL_law__2117 : decode cL_law_ 2117 = .ok (.iconst 2, 1) := by decide +kernel
theorem dL_law__2118 : decode cL_law_ 2118 = .ok (.iadd, 1) := by decide +kernel
theorem dL_law__2119 : decode cL_law_ 2119 = .ok (.iaload, 1) := by decide +kernel
theorem dL_law__2120 : decode cL_law_ 2120 = .ok (.aload_n 0, 1) := by decide +kernel
theorem dL_law__2121 : decode cL_law_ 2121 = .ok (.iload 4, 2) := by decide +kernel
theorem dL_law__2123 : decode cL_law_ 2123 = .ok (.iconst 3, 1) := by decide +kernel
theorem dL_law__2124 : decode cL_law_ 2124 = .ok (.iadd, 1) := by decide +kernel
theorem dL_law__2125 : decode cL_law_ 2125 = .ok (.iaload, 1) := by decide +kernel
theorem dL_law__2126 : decode cL_law_ 2126 = .ok (.invokevirtual 241, 3) := by decide +kernel
theorem dL_law__2129 : decode cL_law_ 2129 = .ok (.istore 6, 2) := by decide +kernel
theorem dL_law__2131 : decode cL_law_ 2131 = .ok (.aload_n 2, 1) := by decide +kernel
theorem dL_law__2132 : decode cL_law_ 2132 = .ok (.invokevirtual 146, 3) := by decide +kernel
theorem dL_law__2135 : decode cL_law_ 2135 = .ok (.iload 5, 2) := by decide +kernel
theorem dL_law__2137 : decode cL_law_ 2137 = .ok (.if_icmp .eq 5, 3) := by decide +kernel
theorem dL_law__2140 : decode cL_law_ 2140 = .ok (.iconst 0, 1) := by decide +kernel
theorem dL_law__2141 : decode cL_law_ 2141 = .ok (.ireturn, 1) := by decide +kernel
theorem dL_law__2142 : decode cL_law_ 2142 = .ok (.iload 5, 2) := by decide +kernel
theorem dL_law__2144 : decode cL_law_ 2144 = .ok (.ifCond .ne 15, 3) := by decide +kernel
theorem dL_law__2147 : decode cL_law_ 2147 = .ok (.aload_n 3, 1) := by decide +kernel
theorem dL_law__2148 : decode cL_law_ 2148 = .ok (.iconst 0, 1) := by decide +kernel
theorem dL_law__2149 : decode cL_law_ 2149 = .ok (.laload, 1) := by decide +kernel
theorem dL_law__2150 : decode cL_law_ 2150 = .ok (.iload 6, 2) := by decide +kernel
theorem dL_law__2152 : decode cL_law_ 2152 = .ok (.i2l, 1) := by decide +kernel
theorem dL_law__2153 : decode cL_law_ 2153 = .ok (.lcmp, 1) := by decide +kernel
theorem dL_law__2154 : decode cL_law_ 2154 = .ok (.ifCond .eq 5, 3) := by decide +kernel
theorem dL_law__2157 : decode cL_law_ 2157 = .ok (.iconst 0, 1) := by decide +kernel
theorem dL_law__2158 : decode cL_law_ 2158 = .ok (.ireturn, 1) := by decide +kernel
theorem dL_law__2159 : decode cL_law_ 2159 = .ok (.goto 582, 3) := by decide +kernel
theorem dL_law__2162 : decode cL_law_ 2162 = .ok (.aload_n 1, 1) := by decide +kernel
theorem dL_law__2163 : decode cL_law_ 2163 = .ok (.aload_n 0, 1) := by decide +kernel
theorem dL_law__2164 : decode cL_law_ 2164 = .ok (.iload 4, 2) := by decide +kernel
theorem dL_law__2166 : decode cL_law_ 2166 = .ok (.iconst 1, 1) := by decide +kernel
theorem dL_law__2167 : decode cL_law_ 2167 = .ok (.iadd, 1) := by decide +kernel
theorem dL_law__2168 : decode cL_law_ 2168 = .ok (.iaload, 1) := by decide +kernel
theorem dL_law__2169 : decode cL_law_ 2169 = .ok (.aload_n 0, 1) := by decide +kernel
theorem dL_law__2170 : decode cL_law_ 2170 = .ok (.iload 4, 2) := by decide +kernel
theorem dL_law__2172 : decode cL_law_ 2172 = .ok (.iconst 2, 1) := by decide +kernel
theorem dL_law__2173 : decode cL_law_ 2173 = .ok (.iadd, 1) := by decide +kernel
theorem dL_law__2174 : decode cL_law_ 2174 = .ok (.iaload, 1) := by decide +kernel
theorem dL_law__2175 : decode cL_law_ 2175 = .ok (.ifCond .eq 7, 3) := by decide +kernel
theorem dL_law__2178 : decode cL_law_ 2178 = .ok (.iconst 1, 1) := by decide +kernel
theorem dL_law__2179 : decode cL_law_ 2179 = .ok (.goto 4, 3) := by decide +kernel
theorem dL_law__2182 : decode cL_law_ 2182 = .ok (.iconst 0, 1) := by decide +kernel
theorem dL_law__2183 : decode cL_law_ 2183 = .ok (.aload_n 3, 1) := by decide +kernel
theorem dL_law__2184 : decode cL_law_ 2184 = .ok (.invokestatic 242, 3) := by decide +kernel
theorem dL_law__2187 : decode cL_law_ 2187 = .ok (.istore 5, 2) := by decide +kernel
theorem dL_law__2189 : decode cL_law_ 2189 = .ok (.aload_n 2, 1) := by decide +kernel
theorem dL_law__2190 : decode cL_law_ 2190 = .ok (.aload_n 0, 1) := by decide +kernel
theorem dL_law__2191 : decode cL_law_ 2191 = .ok (.iload 4, 2) := by decide +kernel
theorem dL_law__2193 : decode cL_law_ 2193 = .ok (.iconst 1, 1) := by decide +kernel
theorem dL_law__2194 : decode cL_law_ 2194 = .ok (.iadd, 1) := by decide +kernel
theorem dL_law__2195 : decode cL_law_ 2195 = .ok (.iaload, 1) := by decide +kernel
theorem dL_law__2196 : decode cL_law_ 2196 = .ok (.aload_n 0, 1) := by decide +kernel
theorem dL_law__2197 : decode cL_law_ 2197 = .ok (.iload 4, 2) := by decide +kernel
theorem dL_law__2199 : decode cL_law_ 2199 = .ok (.iconst 2, 1) := by decide +kernel
theorem dL_law__2200 : decode cL_law_ 2200 = .ok (.iadd, 1) := by decide +kernel
theorem dL_law__2201 : decode cL_law_ 2201 = .ok (.iaload, 1) := by decide +kernel
theorem dL_law__2202 : decode cL_law_ 2202 = .ok (.ifCond .eq 7, 3) := by decide +kernel
theorem dL_law__2205 : decode cL_law_ 2205 = .ok (.iconst 1, 1) := by decide +kernel
theorem dL_law__2206 : decode cL_law_ 2206 = .ok (.goto 4, 3) := by decide +kernel
theorem dL_law__2209 : decode cL_law_ 2209 = .ok (.iconst 0, 1) := by decide +kernel
theorem dL_law__2210 : decode cL_law_ 2210 = .ok (.invokevirtual 244, 3) := by decide +kernel
theorem dL_law__2213 : decode cL_law_ 2213 = .ok (.istore 6, 2) := by decide +kernel
theorem dL_law__2215 : decode cL_law_ 2215 = .ok (.aload_n 2, 1) := by decide +kernel
theorem dL_law__2216 : decode cL_law_ 2216 = .ok (.invokevirtual 146, 3) := by decide +kernel
theorem dL_law__2219 : decode cL_law_ 2219 = .ok (.iload 5, 2) := by decide +kernel
theorem dL_law__2221 : decode cL_law_ 2221 = .ok (.if_icmp .eq 5, 3) := by decide +kernel
theorem dL_law__2224 : decode cL_law_ 2224 = .ok (.iconst 0, 1) := by decide +kernel
theorem dL_law__2225 : decode cL_law_ 2225 = .ok (.ireturn, 1) := by decide +kernel
theorem dL_law__2226 : decode cL_law_ 2226 = .ok (.iload 5, 2) := by decide +kernel
theorem dL_law__2228 : decode cL_law_ 2228 = .ok (.ifCond .ne 22, 3) := by decide +kernel
theorem dL_law__2231 : decode cL_law_ 2231 = .ok (.aload_n 3, 1) := by decide +kernel
theorem dL_law__2232 : decode cL_law_ 2232 = .ok (.iconst 0, 1) := by decide +kernel
theorem dL_law__2233 : decode cL_law_ 2233 = .ok (.laload, 1) := by decide +kernel
theorem dL_law__2234 : decode cL_law_ 2234 = .ok (.iload 6, 2) := by decide +kernel
theorem dL_law__2236 : decode cL_law_ 2236 = .ok (.ifCond .eq 7, 3) := by decide +kernel
theorem dL_law__2239 : decode cL_law_ 2239 = .ok (.lconst 1, 1) := by decide +kernel
theorem dL_law__2240 : decode cL_law_ 2240 = .ok (.goto 4, 3) := by decide +kernel
theorem dL_law__2243 : decode cL_law_ 2243 = .ok (.lconst 0, 1) := by decide +kernel
theorem dL_law__2244 : decode cL_law_ 2244 = .ok (.lcmp, 1) := by decide +kernel
theorem dL_law__2245 : decode cL_law_ 2245 = .ok (.ifCond .eq 5, 3) := by decide +kernel
theorem dL_law__2248 : decode cL_law_ 2248 = .ok (.iconst 0, 1) := by decide +kernel
theorem dL_law__2249 : decode cL_law_ 2249 = .ok (.ireturn, 1) := by decide +kernel
theorem dL_law__2250 : decode cL_law_ 2250 = .ok (.goto 491, 3) := by decide +kernel
theorem dL_law__2253 : decode cL_law_ 2253 = .ok (.aload_n 1, 1) := by decide +kernel
theorem dL_law__2254 : decode cL_law_ 2254 = .ok (.aload_n 0, 1) := by decide +kernel
theorem dL_law__2255 : decode cL_law_ 2255 = .ok (.iload 4, 2) := by decide +kernel
theorem dL_law__2257 : decode cL_law_ 2257 = .ok (.iconst 1, 1) := by decide +kernel
theorem dL_law__2258 : decode cL_law_ 2258 = .ok (.iadd, 1) := by decide +kernel
theorem dL_law__2259 : decode cL_law_ 2259 = .ok (.iaload, 1) := by decide +kernel
theorem dL_law__2260 : decode cL_law_ 2260 = .ok (.aload_n 0, 1) := by decide +kernel
theorem dL_law__2261 : decode cL_law_ 2261 = .ok (.iload 4, 2) := by decide +kernel
theorem dL_law__2263 : decode cL_law_ 2263 = .ok (.iconst 2, 1) := by decide +kernel
theorem dL_law__2264 : decode cL_law_ 2264 = .ok (.iadd, 1) := by decide +kernel
theorem dL_law__2265 : decode cL_law_ 2265 = .ok (.iaload, 1) := by decide +kernel
theorem dL_law__2266 : decode cL_law_ 2266 = .ok (.aload_n 3, 1) := by decide +kernel
theorem dL_law__2267 : decode cL_law_ 2267 = .ok (.invokestatic 245, 3) := by decide +kernel
theorem dL_law__2270 : decode cL_law_ 2270 = .ok (.istore 5, 2) := by decide +kernel
theorem dL_law__2272 : decode cL_law_ 2272 = .ok (.aload_n 2, 1) := by decide +kernel
theorem dL_law__2273 : decode cL_law_ 2273 = .ok (.aload_n 0, 1) := by decide +kernel
theorem dL_law__2274 : decode cL_law_ 2274 = .ok (.iload 4, 2) := by decide +kernel
theorem dL_law__2276 : decode cL_law_ 2276 = .ok (.iconst 1, 1) := by decide +kernel
theorem dL_law__2277 : decode cL_law_ 2277 = .ok (.iadd, 1) := by decide +kernel
theorem dL_law__2278 : decode cL_law_ 2278 = .ok (.iaload, 1) := by decide +kernel
theorem dL_law__2279 : decode cL_law_ 2279 = .ok (.aload_n 0, 1) := by decide +kernel
theorem dL_law__2280 : decode cL_law_ 2280 = .ok (.iload 4, 2) := by decide +kernel
theorem dL_law__2282 : decode cL_law_ 2282 = .ok (.iconst 2, 1) := by decide +kernel
theorem dL_law__2283 : decode cL_law_ 2283 = .ok (.iadd, 1) := by decide +kernel
theorem dL_law__2284 : decode cL_law_ 2284 = .ok (.iaload, 1) := by decide +kernel
theorem dL_law__2285 : decode cL_law_ 2285 = .ok (.invokevirtual 247, 3) := by decide +kernel
theorem dL_law__2288 : decode cL_law_ 2288 = .ok (.istore 6, 2) := by decide +kernel
theorem dL_law__2290 : decode cL_law_ 2290 = .ok (.aload_n 2, 1) := by decide +kernel
theorem dL_law__2291 : decode cL_law_ 2291 = .ok (.invokevirtual 146, 3) := by decide +kernel
theorem dL_law__2294 : decode cL_law_ 2294 = .ok (.iload 5, 2) := by decide +kernel
theorem dL_law__2296 : decode cL_law_ 2296 = .ok (.if_icmp .eq 5, 3) := by decide +kernel
theorem dL_law__2299 : decode cL_law_ 2299 = .ok (.iconst 0, 1) := by decide +kernel
theorem dL_law__2300 : decode cL_law_ 2300 = .ok (.ireturn, 1) := by decide +kernel
theorem dL_law__2301 : decode cL_law_ 2301 = .ok (.iload 5, 2) := by decide +kernel
theorem dL_law__2303 : decode cL_law_ 2303 = .ok (.ifCond .ne 22, 3) := by decide +kernel
theorem dL_law__2306 : decode cL_law_ 2306 = .ok (.aload_n 3, 1) := by decide +kernel
theorem dL_law__2307 : decode cL_law_ 2307 = .ok (.iconst 0, 1) := by decide +kernel
theorem dL_law__2308 : decode cL_law_ 2308 = .ok (.laload, 1) := by decide +kernel
theorem dL_law__2309 : decode cL_law_ 2309 = .ok (.iload 6, 2) := by decide +kernel
theorem dL_law__2311 : decode cL_law_ 2311 = .ok (.ifCond .eq 7, 3) := by decide +kernel
theorem dL_law__2314 : decode cL_law_ 2314 = .ok (.lconst 1, 1) := by decide +kernel
theorem dL_law__2315 : decode cL_law_ 2315 = .ok (.goto 4, 3) := by decide +kernel
theorem dL_law__2318 : decode cL_law_ 2318 = .ok (.lconst 0, 1) := by decide +kernel
theorem dL_law__2319 : decode cL_law_ 2319 = .ok (.lcmp, 1) := by decide +kernel
theorem dL_law__2320 : decode cL_law_ 2320 = .ok (.ifCond .eq 5, 3) := by decide +kernel
theorem dL_law__2323 : decode cL_law_ 2323 = .ok (.iconst 0, 1) := by decide +kernel
theorem dL_law__2324 : decode cL_law_ 2324 = .ok (.ireturn, 1) := by decide +kernel
theorem dL_law__2325 : decode cL_law_ 2325 = .ok (.goto 416, 3) := by decide +kernel
theorem dL_law__2328 : decode cL_law_ 2328 = .ok (.aload_n 1, 1) := by decide +kernel
theorem dL_law__2329 : decode cL_law_ 2329 = .ok (.invokevirtual 248, 3) := by decide +kernel
theorem dL_law__2332 : decode cL_law_ 2332 = .ok (.aload_n 2, 1) := by decide +kernel
theorem dL_law__2333 : decode cL_law_ 2333 = .ok (.invokevirtual 251, 3) := by decide +kernel
theorem dL_law__2336 : decode cL_law_ 2336 = .ok (.if_icmp .eq 405, 3) := by decide +kernel
theorem dL_law__2339 : decode cL_law_ 2339 = .ok (.iconst 0, 1) := by decide +kernel
theorem dL_law__2340 : decode cL_law_ 2340 = .ok (.ireturn, 1) := by decide +kernel
theorem dL_law__2341 : decode cL_law_ 2341 = .ok (.aload_n 1, 1) := by decide +kernel
theorem dL_law__2342 : decode cL_law_ 2342 = .ok (.aload_n 0, 1) := by decide +kernel
theorem dL_law__2343 : decode cL_law_ 2343 = .ok (.iload 4, 2) := by decide +kernel
theorem dL_law__2345 : decode cL_law_ 2345 = .ok (.iconst 1, 1) := by decide +kernel
theorem dL_law__2346 : decode cL_law_ 2346 = .ok (.iadd, 1) := by decide +kernel
theorem dL_law__2347 : decode cL_law_ 2347 = .ok (.iaload, 1) := by decide +kernel
theorem dL_law__2348 : decode cL_law_ 2348 = .ok (.aload_n 3, 1) := by decide +kernel
theorem dL_law__2349 : decode cL_law_ 2349 = .ok (.invokestatic 252, 3) := by decide +kernel
theorem dL_law__2352 : decode cL_law_ 2352 = .ok (.istore 5, 2) := by decide +kernel
theorem dL_law__2354 : decode cL_law_ 2354 = .ok (.aload_n 2, 1) := by decide +kernel
theorem dL_law__2355 : decode cL_law_ 2355 = .ok (.aload_n 0, 1) := by decide +kernel
theorem dL_law__2356 : decode cL_law_ 2356 = .ok (.iload 4, 2) := by decide +kernel
theorem dL_law__2358 : decode cL_law_ 2358 = .ok (.iconst 1, 1) := by decide +kernel
theorem dL_law__2359 : decode cL_law_ 2359 = .ok (.iadd, 1) := by decide +kernel
theorem dL_law__2360 : decode cL_law_ 2360 = .ok (.iaload, 1) := by decide +kernel
theorem dL_law__2361 : decode cL_law_ 2361 = .ok (.invokevirtual 254, 3) := by decide +kernel
theorem dL_law__2364 : decode cL_law_ 2364 = .ok (.istore 6, 2) := by decide +kernel
theorem dL_law__2366 : decode cL_law_ 2366 = .ok (.aload_n 2, 1) := by decide +kernel
theorem dL_law__2367 : decode cL_law_ 2367 = .ok (.invokevirtual 146, 3) := by decide +kernel
theorem dL_law__2370 : decode cL_law_ 2370 = .ok (.iload 5, 2) := by decide +kernel
theorem dL_law__2372 : decode cL_law_ 2372 = .ok (.if_icmp .eq 5, 3) := by decide +kernel
theorem dL_law__2375 : decode cL_law_ 2375 = .ok (.iconst 0, 1) := by decide +kernel
theorem dL_law__2376 : decode cL_law_ 2376 = .ok (.ireturn, 1) := by decide +kernel
theorem dL_law__2377 : decode cL_law_ 2377 = .ok (.iload 5, 2) := by decide +kernel
theorem dL_law__2379 : decode cL_law_ 2379 = .ok (.ifCond .ne 15, 3) := by decide +kernel
theorem dL_law__2382 : decode cL_law_ 2382 = .ok (.aload_n 3, 1) := by decide +kernel
theorem dL_law__2383 : decode cL_law_ 2383 = .ok (.iconst 0, 1) := by decide +kernel
theorem dL_law__2384 : decode cL_law_ 2384 = .ok (.laload, 1) := by decide +kernel
theorem dL_law__2385 : decode cL_law_ 2385 = .ok (.iload 6, 2) := by decide +kernel
theorem dL_law__2387 : decode cL_law_ 2387 = .ok (.i2l, 1) := by decide +kernel
theorem dL_law__2388 : decode cL_law_ 2388 = .ok (.lcmp, 1) := by decide +kernel
theorem dL_law__2389 : decode cL_law_ 2389 = .ok (.ifCond .eq 5, 3) := by decide +kernel
theorem dL_law__2392 : decode cL_law_ 2392 = .ok (.iconst 0, 1) := by decide +kernel
theorem dL_law__2393 : decode cL_law_ 2393 = .ok (.ireturn, 1) := by decide +kernel
theorem dL_law__2394 : decode cL_law_ 2394 = .ok (.goto 347, 3) := by decide +kernel
theorem dL_law__2397 : decode cL_law_ 2397 = .ok (.aload_n 1, 1) := by decide +kernel
theorem dL_law__2398 : decode cL_law_ 2398 = .ok (.aload_n 0, 1) := by decide +kernel
theorem dL_law__2399 : decode cL_law_ 2399 = .ok (.iload 4, 2) := by decide +kernel
theorem dL_law__2401 : decode cL_law_ 2401 = .ok (.iconst 1, 1) := by decide +kernel
theorem dL_law__2402 : decode cL_law_ 2402 = .ok (.iadd, 1) := by decide +kernel
theorem dL_law__2403 : decode cL_law_ 2403 = .ok (.iaload, 1) := by decide +kernel
theorem dL_law__2404 : decode cL_law_ 2404 = .ok (.aload_n 0, 1) := by decide +kernel
theorem dL_law__2405 : decode cL_law_ 2405 = .ok (.iload 4, 2) := by decide +kernel
theorem dL_law__2407 : decode cL_law_ 2407 = .ok (.iconst 2, 1) := by decide +kernel
theorem dL_law__2408 : decode cL_law_ 2408 = .ok (.iadd, 1) := by decide +kernel
theorem dL_law__2409 : decode cL_law_ 2409 = .ok (.iaload, 1) := by decide +kernel
theorem dL_law__2410 : decode cL_law_ 2410 = .ok (.aload_n 0, 1) := by decide +kernel
theorem dL_law__2411 : decode cL_law_ 2411 = .ok (.iload 4, 2) := by decide +kernel
theorem dL_law__2413 : decode cL_law_ 2413 = .ok (.iconst 3, 1) := by decide +kernel
theorem dL_law__2414 : decode cL_law_ 2414 = .ok (.iadd, 1) := by decide +kernel
theorem dL_law__2415 : decode cL_law_ 2415 = .ok (.iaload, 1) := by decide +kernel
theorem dL_law__2416 : decode cL_law_ 2416 = .ok (.aload_n 0, 1) := by decide +kernel
theorem dL_law__2417 : decode cL_law_ 2417 = .ok (.iload 4, 2) := by decide +kernel
theorem dL_law__2419 : decode cL_law_ 2419 = .ok (.iconst 4, 1) := by decide +kernel
theorem dL_law__2420 : decode cL_law_ 2420 = .ok (.iadd, 1) := by decide +kernel
theorem dL_law__2421 : decode cL_law_ 2421 = .ok (.iaload, 1) := by decide +kernel
theorem dL_law__2422 : decode cL_law_ 2422 = .ok (.aload_n 0, 1) := by decide +kernel
theorem dL_law__2423 : decode cL_law_ 2423 = .ok (.iload 4, 2) := by decide +kernel
theorem dL_law__2425 : decode cL_law_ 2425 = .ok (.iconst 5, 1) := by decide +kernel
theorem dL_law__2426 : decode cL_law_ 2426 = .ok (.iadd, 1) := by decide +kernel
theorem dL_law__2427 : decode cL_law_ 2427 = .ok (.iaload, 1) := by decide +kernel
theorem dL_law__2428 : decode cL_law_ 2428 = .ok (.ifCond .eq 7, 3) := by decide +kernel
theorem dL_law__2431 : decode cL_law_ 2431 = .ok (.iconst 1, 1) := by decide +kernel
theorem dL_law__2432 : decode cL_law_ 2432 = .ok (.goto 4, 3) := by decide +kernel
theorem dL_law__2435 : decode cL_law_ 2435 = .ok (.iconst 0, 1) := by decide +kernel
theorem dL_law__2436 : decode cL_law_ 2436 = .ok (.aload_n 3, 1) := by decide +kernel
theorem dL_law__2437 : decode cL_law_ 2437 = .ok (.invokestatic 255, 3) := by decide +kernel
theorem dL_law__2440 : decode cL_law_ 2440 = .ok (.istore 5, 2) := by decide +kernel
theorem dL_law__2442 : decode cL_law_ 2442 = .ok (.aload_n 2, 1) := by decide +kernel
theorem dL_law__2443 : decode cL_law_ 2443 = .ok (.aload_n 0, 1) := by decide +kernel
theorem dL_law__2444 : decode cL_law_ 2444 = .ok (.iload 4, 2) := by decide +kernel
theorem dL_law__2446 : decode cL_law_ 2446 = .ok (.iconst 1, 1) := by decide +kernel
theorem dL_law__2447 : decode cL_law_ 2447 = .ok (.iadd, 1) := by decide +kernel
theorem dL_law__2448 : decode cL_law_ 2448 = .ok (.iaload, 1) := by decide +kernel
theorem dL_law__2449 : decode cL_law_ 2449 = .ok (.aload_n 0, 1) := by decide +kernel
theorem dL_law__2450 : decode cL_law_ 2450 = .ok (.iload 4, 2) := by decide +kernel
theorem dL_law__2452 : decode cL_law_ 2452 = .ok (.iconst 2, 1) := by decide +kernel
theorem dL_law__2453 : decode cL_law_ 2453 = .ok (.iadd, 1) := by decide +kernel
theorem dL_law__2454 : decode cL_law_ 2454 = .ok (.iaload, 1) := by decide +kernel
theorem dL_law__2455 : decode cL_law_ 2455 = .ok (.aload_n 0, 1) := by decide +kernel
theorem dL_law__2456 : decode cL_law_ 2456 = .ok (.iload 4, 2) := by decide +kernel
theorem dL_law__2458 : decode cL_law_ 2458 = .ok (.iconst 3, 1) := by decide +kernel
theorem dL_law__2459 : decode cL_law_ 2459 = .ok (.iadd, 1) := by decide +kernel
theorem dL_law__2460 : decode cL_law_ 2460 = .ok (.iaload, 1) := by decide +kernel
theorem dL_law__2461 : decode cL_law_ 2461 = .ok (.aload_n 0, 1) := by decide +kernel
theorem dL_law__2462 : decode cL_law_ 2462 = .ok (.iload 4, 2) := by decide +kernel
theorem dL_law__2464 : decode cL_law_ 2464 = .ok (.iconst 4, 1) := by decide +kernel
theorem dL_law__2465 : decode cL_law_ 2465 = .ok (.iadd, 1) := by decide +kernel
theorem dL_law__2466 : decode cL_law_ 2466 = .ok (.iaload, 1) := by decide +kernel
theorem dL_law__2467 : decode cL_law_ 2467 = .ok (.aload_n 0, 1) := by decide +kernel
theorem dL_law__2468 : decode cL_law_ 2468 = .ok (.iload 4, 2) := by decide +kernel
theorem dL_law__2470 : decode cL_law_ 2470 = .ok (.iconst 5, 1) := by decide +kernel
theorem dL_law__2471 : decode cL_law_ 2471 = .ok (.iadd, 1) := by decide +kernel
theorem dL_law__2472 : decode cL_law_ 2472 = .ok (.iaload, 1) := by decide +kernel
theorem dL_law__2473 : decode cL_law_ 2473 = .ok (.ifCond .eq 7, 3) := by decide +kernel
theorem dL_law__2476 : decode cL_law_ 2476 = .ok (.iconst 1, 1) := by decide +kernel
theorem dL_law__2477 : decode cL_law_ 2477 = .ok (.goto 4, 3) := by decide +kernel
theorem dL_law__2480 : decode cL_law_ 2480 = .ok (.iconst 0, 1) := by decide +kernel
theorem dL_law__2481 : decode cL_law_ 2481 = .ok (.invokevirtual 258, 3) := by decide +kernel
theorem dL_law__2484 : decode cL_law_ 2484 = .ok (.istore 6, 2) := by decide +kernel
theorem dL_law__2486 : decode cL_law_ 2486 = .ok (.aload_n 2, 1) := by decide +kernel
theorem dL_law__2487 : decode cL_law_ 2487 = .ok (.invokevirtual 146, 3) := by decide +kernel
theorem dL_law__2490 : decode cL_law_ 2490 = .ok (.iload 5, 2) := by decide +kernel
theorem dL_law__2492 : decode cL_law_ 2492 = .ok (.if_icmp .eq 5, 3) := by decide +kernel
theorem dL_law__2495 : decode cL_law_ 2495 = .ok (.iconst 0, 1) := by decide +kernel
theorem dL_law__2496 : decode cL_law_ 2496 = .ok (.ireturn, 1) := by decide +kernel
theorem dL_law__2497 : decode cL_law_ 2497 = .ok (.iload 5, 2) := by decide +kernel
theorem dL_law__2499 : decode cL_law_ 2499 = .ok (.ifCond .ne 15, 3) := by decide +kernel
theorem dL_law__2502 : decode cL_law_ 2502 = .ok (.aload_n 3, 1) := by decide +kernel
theorem dL_law__2503 : decode cL_law_ 2503 = .ok (.iconst 0, 1) := by decide +kernel
theorem dL_law__2504 : decode cL_law_ 2504 = .ok (.laload, 1) := by decide +kernel
theorem dL_law__2505 : decode cL_law_ 2505 = .ok (.iload 6, 2) := by decide +kernel
theorem dL_law__2507 : decode cL_law_ 2507 = .ok (.i2l, 1) := by decide +kernel
theorem dL_law__2508 : decode cL_law_ 2508 = .ok (.lcmp, 1) := by decide +kernel
theorem dL_law__2509 : decode cL_law_ 2509 = .ok (.ifCond .eq 5, 3) := by decide +kernel
theorem dL_law__2512 : decode cL_law_ 2512 = .ok (.iconst 0, 1) := by decide +kernel
theorem dL_law__2513 : decode cL_law_ 2513 = .ok (.ireturn, 1) := by decide +kernel
theorem dL_law__2514 : decode cL_law_ 2514 = .ok (.goto 227, 3) := by decide +kernel
theorem dL_law__2517 : decode cL_law_ 2517 = .ok (.aload_n 1, 1) := by decide +kernel
theorem dL_law__2518 : decode cL_law_ 2518 = .ok (.aload_n 0, 1) := by decide +kernel
theorem dL_law__2519 : decode cL_law_ 2519 = .ok (.iload 4, 2) := by decide +kernel
theorem dL_law__2521 : decode cL_law_ 2521 = .ok (.iconst 1, 1) := by decide +kernel
theorem dL_law__2522 : decode cL_law_ 2522 = .ok (.iadd, 1) := by decide +kernel
theorem dL_law__2523 : decode cL_law_ 2523 = .ok (.iaload, 1) := by decide +kernel
theorem dL_law__2524 : decode cL_law_ 2524 = .ok (.aload_n 3, 1) := by decide +kernel
theorem dL_law__2525 : decode cL_law_ 2525 = .ok (.invokestatic 259, 3) := by decide +kernel
theorem dL_law__2528 : decode cL_law_ 2528 = .ok (.istore 5, 2) := by decide +kernel
theorem dL_law__2530 : decode cL_law_ 2530 = .ok (.aload_n 2, 1) := by decide +kernel
theorem dL_law__2531 : decode cL_law_ 2531 = .ok (.aload_n 0, 1) := by decide +kernel
theorem dL_law__2532 : decode cL_law_ 2532 = .ok (.iload 4, 2) := by decide +kernel
theorem dL_law__2534 : decode cL_law_ 2534 = .ok (.iconst 1, 1) := by decide +kernel
theorem dL_law__2535 : decode cL_law_ 2535 = .ok (.iadd, 1) := by decide +kernel
theorem dL_law__2536 : decode cL_law_ 2536 = .ok (.iaload, 1) := by decide +kernel
theorem dL_law__2537 : decode cL_law_ 2537 = .ok (.invokevirtual 261, 3) := by decide +kernel
theorem dL_law__2540 : decode cL_law_ 2540 = .ok (.istore 6, 2) := by decide +kernel
theorem dL_law__2542 : decode cL_law_ 2542 = .ok (.aload_n 2, 1) := by decide +kernel
theorem dL_law__2543 : decode cL_law_ 2543 = .ok (.invokevirtual 146, 3) := by decide +kernel
theorem dL_law__2546 : decode cL_law_ 2546 = .ok (.iload 5, 2) := by decide +kernel
theorem dL_law__2548 : decode cL_law_ 2548 = .ok (.if_icmp .eq 5, 3) := by decide +kernel
theorem dL_law__2551 : decode cL_law_ 2551 = .ok (.iconst 0, 1) := by decide +kernel
theorem dL_law__2552 : decode cL_law_ 2552 = .ok (.ireturn, 1) := by decide +kernel
theorem dL_law__2553 : decode cL_law_ 2553 = .ok (.iload 5, 2) := by decide +kernel
theorem dL_law__2555 : decode cL_law_ 2555 = .ok (.ifCond .ne 15, 3) := by decide +kernel
theorem dL_law__2558 : decode cL_law_ 2558 = .ok (.aload_n 3, 1) := by decide +kernel
theorem dL_law__2559 : decode cL_law_ 2559 = .ok (.iconst 0, 1) := by decide +kernel
theorem dL_law__2560 : decode cL_law_ 2560 = .ok (.laload, 1) := by decide +kernel
theorem dL_law__2561 : decode cL_law_ 2561 = .ok (.iload 6, 2) := by decide +kernel
theorem dL_law__2563 : decode cL_law_ 2563 = .ok (.i2l, 1) := by decide +kernel
theorem dL_law__2564 : decode cL_law_ 2564 = .ok (.lcmp, 1) := by decide +kernel
theorem dL_law__2565 : decode cL_law_ 2565 = .ok (.ifCond .eq 5, 3) := by decide +kernel
theorem dL_law__2568 : decode cL_law_ 2568 = .ok (.iconst 0, 1) := by decide +kernel
theorem dL_law__2569 : decode cL_law_ 2569 = .ok (.ireturn, 1) := by decide +kernel
theorem dL_law__2570 : decode cL_law_ 2570 = .ok (.goto 171, 3) := by decide +kernel
theorem dL_law__2573 : decode cL_law_ 2573 = .ok (.aload_n 1, 1) := by decide +kernel
theorem dL_law__2574 : decode cL_law_ 2574 = .ok (.aload_n 0, 1) := by decide +kernel
theorem dL_law__2575 : decode cL_law_ 2575 = .ok (.iload 4, 2) := by decide +kernel
theorem dL_law__2577 : decode cL_law_ 2577 = .ok (.iconst 1, 1) := by decide +kernel
theorem dL_law__2578 : decode cL_law_ 2578 = .ok (.iadd, 1) := by decide +kernel
theorem dL_law__2579 : decode cL_law_ 2579 = .ok (.iaload, 1) := by decide +kernel
theorem dL_law__2580 : decode cL_law_ 2580 = .ok (.aload_n 3, 1) := by decide +kernel
theorem dL_law__2581 : decode cL_law_ 2581 = .ok (.invokestatic 262, 3) := by decide +kernel
theorem dL_law__2584 : decode cL_law_ 2584 = .ok (.istore 5, 2) := by decide +kernel
theorem dL_law__2586 : decode cL_law_ 2586 = .ok (.aload_n 2, 1) := by decide +kernel
theorem dL_law__2587 : decode cL_law_ 2587 = .ok (.aload_n 0, 1) := by decide +kernel
theorem dL_law__2588 : decode cL_law_ 2588 = .ok (.iload 4, 2) := by decide +kernel
theorem dL_law__2590 : decode cL_law_ 2590 = .ok (.iconst 1, 1) := by decide +kernel
theorem dL_law__2591 : decode cL_law_ 2591 = .ok (.iadd, 1) := by decide +kernel
theorem dL_law__2592 : decode cL_law_ 2592 = .ok (.iaload, 1) := by decide +kernel
theorem dL_law__2593 : decode cL_law_ 2593 = .ok (.invokevirtual 264, 3) := by decide +kernel
theorem dL_law__2596 : decode cL_law_ 2596 = .ok (.istore 6, 2) := by decide +kernel
theorem dL_law__2598 : decode cL_law_ 2598 = .ok (.aload_n 2, 1) := by decide +kernel
theorem dL_law__2599 : decode cL_law_ 2599 = .ok (.invokevirtual 146, 3) := by decide +kernel
theorem dL_law__2602 : decode cL_law_ 2602 = .ok (.iload 5, 2) := by decide +kernel
theorem dL_law__2604 : decode cL_law_ 2604 = .ok (.if_icmp .eq 5, 3) := by decide +kernel
theorem dL_law__2607 : decode cL_law_ 2607 = .ok (.iconst 0, 1) := by decide +kernel
theorem dL_law__2608 : decode cL_law_ 2608 = .ok (.ireturn, 1) := by decide +kernel
theorem dL_law__2609 : decode cL_law_ 2609 = .ok (.iload 5, 2) := by decide +kernel
theorem dL_law__2611 : decode cL_law_ 2611 = .ok (.ifCond .ne 22, 3) := by decide +kernel
theorem dL_law__2614 : decode cL_law_ 2614 = .ok (.aload_n 3, 1) := by decide +kernel
theorem dL_law__2615 : decode cL_law_ 2615 = .ok (.iconst 0, 1) := by decide +kernel
theorem dL_law__2616 : decode cL_law_ 2616 = .ok (.laload, 1) := by decide +kernel
theorem dL_law__2617 : decode cL_law_ 2617 = .ok (.iload 6, 2) := by decide +kernel
theorem dL_law__2619 : decode cL_law_ 2619 = .ok (.ifCond .eq 7, 3) := by decide +kernel
theorem dL_law__2622 : decode cL_law_ 2622 = .ok (.lconst 1, 1) := by decide +kernel
theorem dL_law__2623 : decode cL_law_ 2623 = .ok (.goto 4, 3) := by decide +kernel
theorem dL_law__2626 : decode cL_law_ 2626 = .ok (.lconst 0, 1) := by decide +kernel
theorem dL_law__2627 : decode cL_law_ 2627 = .ok (.lcmp, 1) := by decide +kernel
theorem dL_law__2628 : decode cL_law_ 2628 = .ok (.ifCond .eq 5, 3) := by decide +kernel
theorem dL_law__2631 : decode cL_law_ 2631 = .ok (.iconst 0, 1) := by decide +kernel
theorem dL_law__2632 : decode cL_law_ 2632 = .ok (.ireturn, 1) := by decide +kernel
theorem dL_law__2633 : decode cL_law_ 2633 = .ok (.goto 108, 3) := by decide +kernel
theorem dL_law__2636 : decode cL_law_ 2636 = .ok (.aload_n 1, 1) := by decide +kernel
theorem dL_law__2637 : decode cL_law_ 2637 = .ok (.aload_n 0, 1) := by decide +kernel
theorem dL_law__2638 : decode cL_law_ 2638 = .ok (.iload 4, 2) := by decide +kernel
theorem dL_law__2640 : decode cL_law_ 2640 = .ok (.iconst 1, 1) := by decide +kernel
theorem dL_law__2641 : decode cL_law_ 2641 = .ok (.iadd, 1) := by decide +kernel
theorem dL_law__2642 : decode cL_law_ 2642 = .ok (.iaload, 1) := by decide +kernel
theorem dL_law__2643 : decode cL_law_ 2643 = .ok (.aload_n 3, 1) := by decide +kernel
theorem dL_law__2644 : decode cL_law_ 2644 = .ok (.invokestatic 265, 3) := by decide +kernel
theorem dL_law__2647 : decode cL_law_ 2647 = .ok (.istore 5, 2) := by decide +kernel
theorem dL_law__2649 : decode cL_law_ 2649 = .ok (.aload_n 2, 1) := by decide +kernel
theorem dL_law__2650 : decode cL_law_ 2650 = .ok (.aload_n 0, 1) := by decide +kernel
theorem dL_law__2651 : decode cL_law_ 2651 = .ok (.iload 4, 2) := by decide +kernel
theorem dL_law__2653 : decode cL_law_ 2653 = .ok (.iconst 1, 1) := by decide +kernel
theorem dL_law__2654 : decode cL_law_ 2654 = .ok (.iadd, 1) := by decide +kernel
theorem dL_law__2655 : decode cL_law_ 2655 = .ok (.iaload, 1) := by decide +kernel
theorem dL_law__2656 : decode cL_law_ 2656 = .ok (.invokevirtual 267, 3) := by decide +kernel
theorem dL_law__2659 : decode cL_law_ 2659 = .ok (.istore 6, 2) := by decide +kernel
theorem dL_law__2661 : decode cL_law_ 2661 = .ok (.aload_n 2, 1) := by decide +kernel
theorem dL_law__2662 : decode cL_law_ 2662 = .ok (.invokevirtual 146, 3) := by decide +kernel
theorem dL_law__2665 : decode cL_law_ 2665 = .ok (.iload 5, 2) := by decide +kernel
theorem dL_law__2667 : decode cL_law_ 2667 = .ok (.if_icmp .eq 5, 3) := by decide +kernel
theorem dL_law__2670 : decode cL_law_ 2670 = .ok (.iconst 0, 1) := by decide +kernel
theorem dL_law__2671 : decode cL_law_ 2671 = .ok (.ireturn, 1) := by decide +kernel
theorem dL_law__2672 : decode cL_law_ 2672 = .ok (.iload 5, 2) := by decide +kernel
theorem dL_law__2674 : decode cL_law_ 2674 = .ok (.ifCond .ne 15, 3) := by decide +kernel
theorem dL_law__2677 : decode cL_law_ 2677 = .ok (.aload_n 3, 1) := by decide +kernel
theorem dL_law__2678 : decode cL_law_ 2678 = .ok (.iconst 0, 1) := by decide +kernel
theorem dL_law__2679 : decode cL_law_ 2679 = .ok (.laload, 1) := by decide +kernel
theorem dL_law__2680 : decode cL_law_ 2680 = .ok (.iload 6, 2) := by decide +kernel
theorem dL_law__2682 : decode cL_law_ 2682 = .ok (.i2l, 1) := by decide +kernel
theorem dL_law__2683 : decode cL_law_ 2683 = .ok (.lcmp, 1) := by decide +kernel
theorem dL_law__2684 : decode cL_law_ 2684 = .ok (.ifCond .eq 5, 3) := by decide +kernel
theorem dL_law__2687 : decode cL_law_ 2687 = .ok (.iconst 0, 1) := by decide +kernel
theorem dL_law__2688 : decode cL_law_ 2688 = .ok (.ireturn, 1) := by decide +kernel
theorem dL_law__2689 : decode cL_law_ 2689 = .ok (.goto 52, 3) := by decide +kernel
theorem dL_law__2692 : decode cL_law_ 2692 = .ok (.aload_n 1, 1) := by decide +kernel
theorem dL_law__2693 : decode cL_law_ 2693 = .ok (.invokevirtual 268, 3) := by decide +kernel
theorem dL_law__2696 : decode cL_law_ 2696 = .ok (.aload_n 2, 1) := by decide +kernel
theorem dL_law__2697 : decode cL_law_ 2697 = .ok (.invokevirtual 271, 3) := by decide +kernel
theorem dL_law__2700 : decode cL_law_ 2700 = .ok (.goto 41, 3) := by decide +kernel
theorem dL_law__2703 : decode cL_law_ 2703 = .ok (.aload_n 1, 1) := by decide +kernel
theorem dL_law__2704 : decode cL_law_ 2704 = .ok (.invokevirtual 272, 3) := by decide +kernel
theorem dL_law__2707 : decode cL_law_ 2707 = .ok (.aload_n 2, 1) := by decide +kernel
theorem dL_law__2708 : decode cL_law_ 2708 = .ok (.invokevirtual 276, 3) := by decide +kernel
theorem dL_law__2711 : decode cL_law_ 2711 = .ok (.if_icmp .eq 30, 3) := by decide +kernel
theorem dL_law__2714 : decode cL_law_ 2714 = .ok (.iconst 0, 1) := by decide +kernel
theorem dL_law__2715 : decode cL_law_ 2715 = .ok (.ireturn, 1) := by decide +kernel
theorem dL_law__2716 : decode cL_law_ 2716 = .ok (.aload_n 1, 1) := by decide +kernel
theorem dL_law__2717 : decode cL_law_ 2717 = .ok (.aload_n 0, 1) := by decide +kernel
theorem dL_law__2718 : decode cL_law_ 2718 = .ok (.iload 4, 2) := by decide +kernel
theorem dL_law__2720 : decode cL_law_ 2720 = .ok (.iconst 1, 1) := by decide +kernel
theorem dL_law__2721 : decode cL_law_ 2721 = .ok (.iadd, 1) := by decide +kernel
theorem dL_law__2722 : decode cL_law_ 2722 = .ok (.iaload, 1) := by decide +kernel
theorem dL_law__2723 : decode cL_law_ 2723 = .ok (.invokevirtual 277, 3) := by decide +kernel
theorem dL_law__2726 : decode cL_law_ 2726 = .ok (.aload_n 2, 1) := by decide +kernel
theorem dL_law__2727 : decode cL_law_ 2727 = .ok (.aload_n 0, 1) := by decide +kernel
theorem dL_law__2728 : decode cL_law_ 2728 = .ok (.iload 4, 2) := by decide +kernel
theorem dL_law__2730 : decode cL_law_ 2730 = .ok (.iconst 1, 1) := by decide +kernel
theorem dL_law__2731 : decode cL_law_ 2731 = .ok (.iadd, 1) := by decide +kernel
theorem dL_law__2732 : decode cL_law_ 2732 = .ok (.iaload, 1) := by decide +kernel
theorem dL_law__2733 : decode cL_law_ 2733 = .ok (.invokevirtual 280, 3) := by decide +kernel
theorem dL_law__2736 : decode cL_law_ 2736 = .ok (.if_icmp .eq 5, 3) := by decide +kernel
theorem dL_law__2739 : decode cL_law_ 2739 = .ok (.iconst 0, 1) := by decide +kernel
theorem dL_law__2740 : decode cL_law_ 2740 = .ok (.ireturn, 1) := by decide +kernel
theorem dL_law__2741 : decode cL_law_ 2741 = .ok (.iinc 4 6, 3) := by decide +kernel
theorem dL_law__2744 : decode cL_law_ 2744 = .ok (.goto (-2721), 3) := by decide +kernel
theorem dL_law__2747 : decode cL_law_ 2747 = .ok (.iconst 1, 1) := by decide +kernel
theorem dL_law__2748 : decode cL_law_ 2748 = .ok (.ireturn, 1) := by decide +kernel
