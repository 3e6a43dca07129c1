theorem dL_law__0 : decode cL_law_ 0 = .ok (.new 8, 3) := by decide +kernel
theorem dL_law__3 : decode cL_law_ 3 = .ok (.dup, 1) := by decide +kernel
theorem dL_law__4 : decode cL_law_ 4 = .ok (.invokespecial 116, 3) := by decide +kernel
theorem dL_law__7 : decode cL_law_ 7 = .ok (.astore_n 1, 1) := by decide +kernel
theorem dL_law__8 : decode cL_law_ 8 = .ok (.new 117, 3) := by decide +kernel
theorem dL_law__11 : decode cL_law_ 11 = .ok (.dup, 1) := by decide +kernel
theorem dL_law__12 : decode cL_law_ 12 = .ok (.invokespecial 119, 3) := by decide +kernel
theorem dL_law__15 : decode cL_law_ 15 = .ok (.astore_n 2, 1) := by decide +kernel
theorem dL_law__16 : decode cL_law_ 16 = .ok (.iconst 1, 1) := by decide +kernel
theorem dL_law__17 : decode cL_law_ 17 = .ok (.newarray .long, 2) := by decide +kernel
theorem dL_law__19 : decode cL_law_ 19 = .ok (.astore_n 3, 1) := by decide +kernel
theorem dL_law__20 : decode cL_law_ 20 = .ok (.iconst 0, 1) := by decide +kernel
theorem dL_law__21 : decode cL_law_ 21 = .ok (.istore 4, 2) := by decide +kernel
theorem dL_law__23 : decode cL_law_ 23 = .ok (.iload 4, 2) := by decide +kernel
theorem dL_law__25 : decode cL_law_ 25 = .ok (.aload_n 0, 1) := by decide +kernel
theorem dL_law__26 : decode cL_law_ 26 = .ok (.arraylength, 1) := by decide +kernel
theorem dL_law__27 : decode cL_law_ 27 = .ok (.bipush 6, 2) := by decide +kernel
theorem dL_law__29 : decode cL_law_ 29 = .ok (.isub, 1) := by decide +kernel
theorem dL_law__30 : decode cL_law_ 30 = .ok (.if_icmp .gt 2468, 3) := by decide +kernel
theorem dL_law__33 : decode cL_law_ 33 = .ok (.aload_n 0, 1) := by decide +kernel
theorem dL_law__34 : decode cL_law_ 34 = .ok (.iload 4, 2) := by decide +kernel
theorem dL_law__36 : decode cL_law_ 36 = .ok (.iaload, 1) := by decide +kernel
theorem dL_law__37 : decode cL_law_ 37 = .ok (.bipush 63, 2) := by decide +kernel
theorem dL_law__39 : decode cL_law_ 39 = .ok (.iand, 1) := by decide +kernel
theorem dL_law__40 : decode cL_law_ 40 = .ok (.tableswitch 2452 0 47 #[208, 281, 306, 350, 394, 407, 475, 531, 599, 707, 763, 811, 867, 923, 959, 1015, 1071, 1127, 1183, 1251, 1307, 1375, 1431, 1444, 1485, 1498, 1511, 1595, 1651, 1719, 1775, 1788, 1801, 1814, 1827, 1883, 1951, 1992, 2060, 2073, 2129, 2213, 2297, 2365, 2390, 2403, 2414, 2427], 208) := by decide +kernel
theorem dL_law__248 : decode cL_law_ 248 = .ok (.aload_n 1, 1) := by decide +kernel
theorem dL_law__249 : decode cL_law_ 249 = .ok (.aload_n 0, 1) := by decide +kernel
theorem dL_law__250 : decode cL_law_ 250 = .ok (.iload 4, 2) := by decide +kernel
theorem dL_law__252 : decode cL_law_ 252 = .ok (.iconst 1, 1) := by decide +kernel
theorem dL_law__253 : decode cL_law_ 253 = .ok (.iadd, 1) := by decide +kernel
theorem dL_law__254 : decode cL_law_ 254 = .ok (.iaload, 1) := by decide +kernel
theorem dL_law__255 : decode cL_law_ 255 = .ok (.aload_n 0, 1) := by decide +kernel
theorem dL_law__256 : decode cL_law_ 256 = .ok (.iload 4, 2) := by decide +kernel
theorem dL_law__258 : decode cL_law_ 258 = .ok (.iconst 2, 1) := by decide +kernel
theorem dL_law__259 : decode cL_law_ 259 = .ok (.iadd, 1) := by decide +kernel
theorem dL_law__260 : decode cL_law_ 260 = .ok (.iaload, 1) := by decide +kernel
theorem dL_law__261 : decode cL_law_ 261 = .ok (.aload_n 0, 1) := by decide +kernel
theorem dL_law__262 : decode cL_law_ 262 = .ok (.iload 4, 2) := by decide +kernel
theorem dL_law__264 : decode cL_law_ 264 = .ok (.iconst 3, 1) := by decide +kernel
theorem dL_law__265 : decode cL_law_ 265 = .ok (.iadd, 1) := by decide +kernel
theorem dL_law__266 : decode cL_law_ 266 = .ok (.iaload, 1) := by decide +kernel
theorem dL_law__267 : decode cL_law_ 267 = .ok (.aload_n 0, 1) := by decide +kernel
theorem dL_law__268 : decode cL_law_ 268 = .ok (.iload 4, 2) := by decide +kernel
theorem dL_law__270 : decode cL_law_ 270 = .ok (.iconst 4, 1) := by decide +kernel
theorem dL_law__271 : decode cL_law_ 271 = .ok (.iadd, 1) := by decide +kernel
theorem dL_law__272 : decode cL_law_ 272 = .ok (.iaload, 1) := by decide +kernel
theorem dL_law__273 : decode cL_law_ 273 = .ok (.aload_n 0, 1) := by decide +kernel
theorem dL_law__274 : decode cL_law_ 274 = .ok (.iload 4, 2) := by decide +kernel
theorem dL_law__276 : decode cL_law_ 276 = .ok (.iconst 5, 1) := by decide +kernel
theorem dL_law__277 : decode cL_law_ 277 = .ok (.iadd, 1) := by decide +kernel
theorem dL_law__278 : decode cL_law_ 278 = .ok (.iaload, 1) := by decide +kernel
theorem dL_law__279 : decode cL_law_ 279 = .ok (.invokevirtual 120, 3) := by decide +kernel
theorem dL_law__282 : decode cL_law_ 282 = .ok (.aload_n 2, 1) := by decide +kernel
theorem dL_law__283 : decode cL_law_ 283 = .ok (.aload_n 0, 1) := by decide +kernel
theorem dL_law__284 : decode cL_law_ 284 = .ok (.iload 4, 2) := by decide +kernel
theorem dL_law__286 : decode cL_law_ 286 = .ok (.iconst 1, 1) := by decide +kernel
theorem dL_law__287 : decode cL_law_ 287 = .ok (.iadd, 1) := by decide +kernel
theorem dL_law__288 : decode cL_law_ 288 = .ok (.iaload, 1) := by decide +kernel
theorem dL_law__289 : decode cL_law_ 289 = .ok (.aload_n 0, 1) := by decide +kernel
theorem dL_law__290 : decode cL_law_ 290 = .ok (.iload 4, 2) := by decide +kernel
theorem dL_law__292 : decode cL_law_ 292 = .ok (.iconst 2, 1) := by decide +kernel
theorem dL_law__293 : decode cL_law_ 293 = .ok (.iadd, 1) := by decide +kernel
theorem dL_law__294 : decode cL_law_ 294 = .ok (.iaload, 1) := by decide +kernel
theorem dL_law__295 : decode cL_law_ 295 = .ok (.aload_n 0, 1) := by decide +kernel
theorem dL_law__296 : decode cL_law_ 296 = .ok (.iload 4, 2) := by decide +kernel
theorem dL_law__298 : decode cL_law_ 298 = .ok (.iconst 3, 1) := by decide +kernel
theorem dL_law__299 : decode cL_law_ 299 = .ok (.iadd, 1) := by decide +kernel
theorem dL_law__300 : decode cL_law_ 300 = .ok (.iaload, 1) := by decide +kernel
theorem dL_law__301 : decode cL_law_ 301 = .ok (.aload_n 0, 1) := by decide +kernel
theorem dL_law__302 : decode cL_law_ 302 = .ok (.iload 4, 2) := by decide +kernel
theorem dL_law__304 : decode cL_law_ 304 = .ok (.iconst 4, 1) := by decide +kernel
theorem dL_law__305 : decode cL_law_ 305 = .ok (.iadd, 1) := by decide +kernel
theorem dL_law__306 : decode cL_law_ 306 = .ok (.iaload, 1) := by decide +kernel
theorem dL_law__307 : decode cL_law_ 307 = .ok (.aload_n 0, 1) := by decide +kernel
theorem dL_law__308 : decode cL_law_ 308 = .ok (.iload 4, 2) := by decide +kernel
theorem dL_law__310 : decode cL_law_ 310 = .ok (.iconst 5, 1) := by decide +kernel
theorem dL_law__311 : decode cL_law_ 311 = .ok (.iadd, 1) := by decide +kernel
theorem dL_law__312 : decode cL_law_ 312 = .ok (.iaload, 1) := by decide +kernel
theorem dL_law__313 : decode cL_law_ 313 = .ok (.invokevirtual 124, 3) := by decide +kernel
theorem dL_law__316 : decode cL_law_ 316 = .ok (.if_icmp .eq 2176, 3) := by decide +kernel
theorem dL_law__319 : decode cL_law_ 319 = .ok (.iconst 0, 1) := by decide +kernel
theorem dL_law__320 : decode cL_law_ 320 = .ok (.ireturn, 1) := by decide +kernel
theorem dL_law__321 : decode cL_law_ 321 = .ok (.aload_n 1, 1) := by decide +kernel
theorem dL_law__322 : decode cL_law_ 322 = .ok (.aload_n 0, 1) := by decide +kernel
theorem dL_law__323 : decode cL_law_ 323 = .ok (.iload 4, 2) := by decide +kernel
theorem dL_law__325 : decode cL_law_ 325 = .ok (.iconst 1, 1) := by decide +kernel
theorem dL_law__326 : decode cL_law_ 326 = .ok (.iadd, 1) := by decide +kernel
theorem dL_law__327 : decode cL_law_ 327 = .ok (.iaload, 1) := by decide +kernel
theorem dL_law__328 : decode cL_law_ 328 = .ok (.invokevirtual 125, 3) := by decide +kernel
theorem dL_law__331 : decode cL_law_ 331 = .ok (.aload_n 2, 1) := by decide +kernel
theorem dL_law__332 : decode cL_law_ 332 = .ok (.aload_n 0, 1) := by decide +kernel
theorem dL_law__333 : decode cL_law_ 333 = .ok (.iload 4, 2) := by decide +kernel
theorem dL_law__335 : decode cL_law_ 335 = .ok (.iconst 1, 1) := by decide +kernel
theorem dL_law__336 : decode cL_law_ 336 = .ok (.iadd, 1) := by decide +kernel
theorem dL_law__337 : decode cL_law_ 337 = .ok (.iaload, 1) := by decide +kernel
theorem dL_law__338 : decode cL_law_ 338 = .ok (.invokevirtual 129, 3) := by decide +kernel
theorem dL_law__341 : decode cL_law_ 341 = .ok (.if_icmp .eq 2151, 3) := by decide +kernel
theorem dL_law__344 : decode cL_law_ 344 = .ok (.iconst 0, 1) := by decide +kernel
theorem dL_law__345 : decode cL_law_ 345 = .ok (.ireturn, 1) := by decide +kernel
theorem dL_law__346 : decode cL_law_ 346 = .ok (.aload_n 1, 1) := by decide +kernel
theorem dL_law__347 : decode cL_law_ 347 = .ok (.aload_n 3, 1) := by decide +kernel
theorem dL_law__348 : decode cL_law_ 348 = .ok (.invokestatic 130, 3) := by decide +kernel
theorem dL_law__351 : decode cL_law_ 351 = .ok (.istore 5, 2) := by decide +kernel
theorem dL_law__353 : decode cL_law_ 353 = .ok (.aload_n 2, 1) := by decide +kernel
theorem dL_law__354 : decode cL_law_ 354 = .ok (.invokevirtual 135, 3) := by decide +kernel
theorem dL_law__357 : decode cL_law_ 357 = .ok (.istore 6, 2) := by decide +kernel
theorem dL_law__359 : decode cL_law_ 359 = .ok (.aload_n 2, 1) := by decide +kernel
theorem dL_law__360 : decode cL_law_ 360 = .ok (.invokevirtual 136, 3) := by decide +kernel
theorem dL_law__363 : decode cL_law_ 363 = .ok (.iload 5, 2) := by decide +kernel
theorem dL_law__365 : decode cL_law_ 365 = .ok (.if_icmp .eq 5, 3) := by decide +kernel
theorem dL_law__368 : decode cL_law_ 368 = .ok (.iconst 0, 1) := by decide +kernel
theorem dL_law__369 : decode cL_law_ 369 = .ok (.ireturn, 1) := by decide +kernel
theorem dL_law__370 : decode cL_law_ 370 = .ok (.iload 5, 2) := by decide +kernel
theorem dL_law__372 : decode cL_law_ 372 = .ok (.ifCond .ne 15, 3) := by decide +kernel
theorem dL_law__375 : decode cL_law_ 375 = .ok (.aload_n 3, 1) := by decide +kernel
theorem dL_law__376 : decode cL_law_ 376 = .ok (.iconst 0, 1) := by decide +kernel
theorem dL_law__377 : decode cL_law_ 377 = .ok (.laload, 1) := by decide +kernel
theorem dL_law__378 : decode cL_law_ 378 = .ok (.iload 6, 2) := by decide +kernel
theorem dL_law__380 : decode cL_law_ 380 = .ok (.i2l, 1) := by decide +kernel
theorem dL_law__381 : decode cL_law_ 381 = .ok (.lcmp, 1) := by decide +kernel
theorem dL_law__382 : decode cL_law_ 382 = .ok (.ifCond .eq 5, 3) := by decide +kernel
theorem dL_law__385 : decode cL_law_ 385 = .ok (.iconst 0, 1) := by decide +kernel
theorem dL_law__386 : decode cL_law_ 386 = .ok (.ireturn, 1) := by decide +kernel
theorem dL_law__387 : decode cL_law_ 387 = .ok (.goto 2105, 3) := by decide +kernel
theorem dL_law__390 : decode cL_law_ 390 = .ok (.aload_n 1, 1) := by decide +kernel
theorem dL_law__391 : decode cL_law_ 391 = .ok (.aload_n 3, 1) := by decide +kernel
theorem dL_law__392 : decode cL_law_ 392 = .ok (.invokestatic 139, 3) := by decide +kernel
theorem dL_law__395 : decode cL_law_ 395 = .ok (.istore 5, 2) := by decide +kernel
theorem dL_law__397 : decode cL_law_ 397 = .ok (.aload_n 2, 1) := by decide +kernel
theorem dL_law__398 : decode cL_law_ 398 = .ok (.invokevirtual 141, 3) := by decide +kernel
theorem dL_law__401 : decode cL_law_ 401 = .ok (.istore 6, 2) := by decide +kernel
theorem dL_law__403 : decode cL_law_ 403 = .ok (.aload_n 2, 1) := by decide +kernel
theorem dL_law__404 : decode cL_law_ 404 = .ok (.invokevirtual 136, 3) := by decide +kernel
theorem dL_law__407 : decode cL_law_ 407 = .ok (.iload 5, 2) := by decide +kernel
theorem dL_law__409 : decode cL_law_ 409 = .ok (.if_icmp .eq 5, 3) := by decide +kernel
theorem dL_law__412 : decode cL_law_ 412 = .ok (.iconst 0, 1) := by decide +kernel
theorem dL_law__413 : decode cL_law_ 413 = .ok (.ireturn, 1) := by decide +kernel
theorem dL_law__414 : decode cL_law_ 414 = .ok (.iload 5, 2) := by decide +kernel
theorem dL_law__416 : decode cL_law_ 416 = .ok (.ifCond .ne 15, 3) := by decide +kernel
theorem dL_law__419 : decode cL_law_ 419 = .ok (.aload_n 3, 1) := by decide +kernel
theorem dL_law__420 : decode cL_law_ 420 = .ok (.iconst 0, 1) := by decide +kernel
theorem dL_law__421 : decode cL_law_ 421 = .ok (.laload, 1) := by decide +kernel
theorem dL_law__422 : decode cL_law_ 422 = .ok (.iload 6, 2) := by decide +kernel
theorem dL_law__424 : decode cL_law_ 424 = .ok (.i2l, 1) := by decide +kernel
theorem dL_law__425 : decode cL_law_ 425 = .ok (.lcmp, 1) := by decide +kernel
theorem dL_law__426 : decode cL_law_ 426 = .ok (.ifCond .eq 5, 3) := by decide +kernel
theorem dL_law__429 : decode cL_law_ 429 = .ok (.iconst 0, 1) := by decide +kernel
theorem dL_law__430 : decode cL_law_ 430 = .ok (.ireturn, 1) := by decide +kernel
theorem dL_law__431 : decode cL_law_ 431 = .ok (.goto 2061, 3) := by decide +kernel
theorem dL_law__434 : decode cL_law_ 434 = .ok (.aload_n 1, 1) := by decide +kernel
theorem dL_law__435 : decode cL_law_ 435 = .ok (.invokevirtual 142, 3) := by decide +kernel
theorem dL_law__438 : decode cL_law_ 438 = .ok (.aload_n 2, 1) := by decide +kernel
theorem dL_law__439 : decode cL_law_ 439 = .ok (.invokevirtual 145, 3) := by decide +kernel
theorem dL_law__442 : decode cL_law_ 442 = .ok (.if_icmp .eq 2050, 3) := by decide +kernel
theorem dL_law__445 : decode cL_law_ 445 = .ok (.iconst 0, 1) := by decide +kernel
theorem dL_law__446 : decode cL_law_ 446 = .ok (.ireturn, 1) := by decide +kernel
theorem dL_law__447 : decode cL_law_ 447 = .ok (.aload_n 1, 1) := by decide +kernel
theorem dL_law__448 : decode cL_law_ 448 = .ok (.aload_n 0, 1) := by decide +kernel
theorem dL_law__449 : decode cL_law_ 449 = .ok (.iload 4, 2) := by decide +kernel
theorem dL_law__451 : decode cL_law_ 451 = .ok (.iconst 1, 1) := by decide +kernel
theorem dL_law__452 : decode cL_law_ 452 = .ok (.iadd, 1) := by decide +kernel
theorem dL_law__453 : decode cL_law_ 453 = .ok (.iaload, 1) := by decide +kernel
theorem dL_law__454 : decode cL_law_ 454 = .ok (.aload_n 0, 1) := by decide +kernel
theorem dL_law__455 : decode cL_law_ 455 = .ok (.iload 4, 2) := by decide +kernel
theorem dL_law__457 : decode cL_law_ 457 = .ok (.iconst 2, 1) := by decide +kernel
theorem dL_law__458 : decode cL_law_ 458 = .ok (.iadd, 1) := by decide +kernel
theorem dL_law__459 : decode cL_law_ 459 = .ok (.iaload, 1) := by decide +kernel
theorem dL_law__460 : decode cL_law_ 460 = .ok (.aload_n 3, 1) := by decide +kernel
theorem dL_law__461 : decode cL_law_ 461 = .ok (.invokestatic 146, 3) := by decide +kernel
theorem dL_law__464 : decode cL_law_ 464 = .ok (.istore 5, 2) := by decide +kernel
theorem dL_law__466 : decode cL_law_ 466 = .ok (.aload_n 2, 1) := by decide +kernel
theorem dL_law__467 : decode cL_law_ 467 = .ok (.aload_n 0, 1) := by decide +kernel
theorem dL_law__468 : decode cL_law_ 468 = .ok (.iload 4, 2) := by decide +kernel
theorem dL_law__470 : decode cL_law_ 470 = .ok (.iconst 1, 1) := by decide +kernel
theorem dL_law__471 : decode cL_law_ 471 = .ok (.iadd, 1) := by decide +kernel
theorem dL_law__472 : decode cL_law_ 472 = .ok (.iaload, 1) := by decide +kernel
theorem dL_law__473 : decode cL_law_ 473 = .ok (.aload_n 0, 1) := by decide +kernel
theorem dL_law__474 : decode cL_law_ 474 = .ok (.iload 4, 2) := by decide +kernel
theorem dL_law__476 : decode cL_law_ 476 = .ok (.iconst 2, 1) := by decide +kernel
theorem dL_law__477 : decode cL_law_ 477 = .ok (.iadd, 1) := by decide +kernel
theorem dL_law__478 : decode cL_law_ 478 = .ok (.iaload, 1) := by decide +kernel
theorem dL_law__479 : decode cL_law_ 479 = .ok (.invokevirtual 149, 3) := by decide +kernel
theorem dL_law__482 : decode cL_law_ 482 = .ok (.istore 6, 2) := by decide +kernel
theorem dL_law__484 : decode cL_law_ 484 = .ok (.aload_n 2, 1) := by decide +kernel
theorem dL_law__485 : decode cL_law_ 485 = .ok (.invokevirtual 136, 3) := by decide +kernel
theorem dL_law__488 : decode cL_law_ 488 = .ok (.iload 5, 2) := by decide +kernel
theorem dL_law__490 : decode cL_law_ 490 = .ok (.if_icmp .eq 5, 3) := by decide +kernel
theorem dL_law__493 : decode cL_law_ 493 = .ok (.iconst 0, 1) := by decide +kernel
theorem dL_law__494 : decode cL_law_ 494 = .ok (.ireturn, 1) := by decide +kernel
theorem dL_law__495 : decode cL_law_ 495 = .ok (.iload 5, 2) := by decide +kernel
theorem dL_law__497 : decode cL_law_ 497 = .ok (.ifCond .ne 15, 3) := by decide +kernel
theorem dL_law__500 : decode cL_law_ 500 = .ok (.aload_n 3, 1) := by decide +kernel
theorem dL_law__501 : decode cL_law_ 501 = .ok (.iconst 0, 1) := by decide +kernel
theorem dL_law__502 : decode cL_law_ 502 = .ok (.laload, 1) := by decide +kernel
theorem dL_law__503 : decode cL_law_ 503 = .ok (.iload 6, 2) := by decide +kernel
theorem dL_law__505 : decode cL_law_ 505 = .ok (.i2l, 1) := by decide +kernel
theorem dL_law__506 : decode cL_law_ 506 = .ok (.lcmp, 1) := by decide +kernel
theorem dL_law__507 : decode cL_law_ 507 = .ok (.ifCond .eq 5, 3) := by decide +kernel
theorem dL_law__510 : decode cL_law_ 510 = .ok (.iconst 0, 1) := by decide +kernel
theorem dL_law__511 : decode cL_law_ 511 = .ok (.ireturn, 1) := by decide +kernel
theorem dL_law__512 : decode cL_law_ 512 = .ok (.goto 1980, 3) := by decide +kernel
theorem dL_law__515 : decode cL_law_ 515 = .ok (.aload_n 1, 1) := by decide +kernel
theorem dL_law__516 : decode cL_law_ 516 = .ok (.aload_n 0, 1) := by decide +kernel
theorem dL_law__517 : decode cL_law_ 517 = .ok (.iload 4, 2) := by decide +kernel
theorem dL_law__519 : decode cL_law_ 519 = .ok (.iconst 1, 1) := by decide +kernel
theorem dL_law__520 : decode cL_law_ 520 = .ok (.iadd, 1) := by decide +kernel
theorem dL_law__521 : decode cL_law_ 521 = .ok (.iaload, 1) := by decide +kernel
theorem dL_law__522 : decode cL_law_ 522 = .ok (.aload_n 3, 1) := by decide +kernel
theorem dL_law__523 : decode cL_law_ 523 = .ok (.invokestatic 150, 3) := by decide +kernel
theorem dL_law__526 : decode cL_law_ 526 = .ok (.istore 5, 2) := by decide +kernel
theorem dL_law__528 : decode cL_law_ 528 = .ok (.aload_n 2, 1) := by decide +kernel
theorem dL_law__529 : decode cL_law_ 529 = .ok (.aload_n 0, 1) := by decide +kernel
theorem dL_law__530 : decode cL_law_ 530 = .ok (.iload 4, 2) := by decide +kernel
theorem dL_law__532 : decode cL_law_ 532 = .ok (.iconst 1, 1) := by decide +kernel
theorem dL_law__533 : decode cL_law_ 533 = .ok (.iadd, 1) := by decide +kernel
theorem dL_law__534 : decode cL_law_ 534 = .ok (.iaload, 1) := by decide +kernel
theorem dL_law__535 : decode cL_law_ 535 = .ok (.invokevirtual 153, 3) := by decide +kernel
theorem dL_law__538 : decode cL_law_ 538 = .ok (.istore 6, 2) := by decide +kernel
theorem dL_law__540 : decode cL_law_ 540 = .ok (.aload_n 2, 1) := by decide +kernel
theorem dL_law__541 : decode cL_law_ 541 = .ok (.invokevirtual 136, 3) := by decide +kernel
theorem dL_law__544 : decode cL_law_ 544 = .ok (.iload 5, 2) := by decide +kernel
theorem dL_law__546 : decode cL_law_ 546 = .ok (.if_icmp .eq 5, 3) := by decide +kernel
theorem dL_law__549 : decode cL_law_ 549 = .ok (.iconst 0, 1) := by decide +kernel
theorem dL_law__550 : decode cL_law_ 550 = .ok (.ireturn, 1) := by decide +kernel
theorem dL_law__551 : decode cL_law_ 551 = .ok (.iload 5, 2) := by decide +kernel
theorem dL_law__553 : decode cL_law_ 553 = .ok (.ifCond .ne 15, 3) := by decide +kernel
theorem dL_law__556 : decode cL_law_ 556 = .ok (.aload_n 3, 1) := by decide +kernel
theorem dL_law__557 : decode cL_law_ 557 = .ok (.iconst 0, 1) := by decide +kernel
theorem dL_law__558 : decode cL_law_ 558 = .ok (.laload, 1) := by decide +kernel
theorem dL_law__559 : decode cL_law_ 559 = .ok (.iload 6, 2) := by decide +kernel
theorem dL_law__561 : decode cL_law_ 561 = .ok (.i2l, 1) := by decide +kernel
theorem dL_law__562 : decode cL_law_ 562 = .ok (.lcmp, 1) := by decide +kernel
theorem dL_law__563 : decode cL_law_ 563 = .ok (.ifCond .eq 5, 3) := by decide +kernel
theorem dL_law__566 : decode cL_law_ 566 = .ok (.iconst 0, 1) := by decide +kernel
theorem dL_law__567 : decode cL_law_ 567 = .ok (.ireturn, 1) := by decide +kernel
theorem dL_law__568 : decode cL_law_ 568 = .ok (.goto 1924, 3) := by decide +kernel
theorem dL_law__571 : decode cL_law_ 571 = .ok (.aload_n 1, 1) := by decide +kernel
theorem dL_law__572 : decode cL_law_ 572 = .ok (.aload_n 0, 1) := by decide +kernel
theorem dL_law__573 : decode cL_law_ 573 = .ok (.iload 4, 2) := by decide +kernel
theorem dL_law__575 : decode cL_law_ 575 = .ok (.iconst 1, 1) := by decide +kernel
theorem dL_law__576 : decode cL_law_ 576 = .ok (.iadd, 1) := by decide +kernel
theorem dL_law__577 : decode cL_law_ 577 = .ok (.iaload, 1) := by decide +kernel
theorem dL_law__578 : decode cL_law_ 578 = .ok (.aload_n 0, 1) := by decide +kernel
theorem dL_law__579 : decode cL_law_ 579 = .ok (.iload 4, 2) := by decide +kernel
theorem dL_law__581 : decode cL_law_ 581 = .ok (.iconst 2, 1) := by decide +kernel
theorem dL_law__582 : decode cL_law_ 582 = .ok (.iadd, 1) := by decide +kernel
theorem dL_law__583 : decode cL_law_ 583 = .ok (.iaload, 1) := by decide +kernel
theorem dL_law__584 : decode cL_law_ 584 = .ok (.aload_n 3, 1) := by decide +kernel
theorem dL_law__585 : decode cL_law_ 585 = .ok (.invokestatic 154, 3) := by decide +kernel
theorem dL_law__588 : decode cL_law_ 588 = .ok (.istore 5, 2) := by decide +kernel
theorem dL_law__590 : decode cL_law_ 590 = .ok (.aload_n 2, 1) := by decide +kernel
theorem dL_law__591 : decode cL_law_ 591 = .ok (.aload_n 0, 1) := by decide +kernel
theorem dL_law__592 : decode cL_law_ 592 = .ok (.iload 4, 2) := by decide +kernel
theorem dL_law__594 : decode cL_law_ 594 = .ok (.iconst 1, 1) := by decide +kernel
theorem dL_law__595 : decode cL_law_ 595 = .ok (.iadd, 1) := by decide +kernel
theorem dL_law__596 : decode cL_law_ 596 = .ok (.iaload, 1) := by decide +kernel
theorem dL_law__597 : decode cL_law_ 597 = .ok (.aload_n 0, 1) := by decide +kernel
theorem dL_law__598 : decode cL_law_ 598 = .ok (.iload 4, 2) := by decide +kernel
theorem dL_law__600 : decode cL_law_ 600 = .ok (.iconst 2, 1) := by decide +kernel
theorem dL_law__601 : decode cL_law_ 601 = .ok (.iadd, 1) := by decide +kernel
theorem dL_law__602 : decode cL_law_ 602 = .ok (.iaload, 1) := by decide +kernel
theorem dL_law__603 : decode cL_law_ 603 = .ok (.invokevirtual 156, 3) := by decide +kernel
theorem dL_law__606 : decode cL_law_ 606 = .ok (.istore 6, 2) := by decide +kernel
theorem dL_law__608 : decode cL_law_ 608 = .ok (.aload_n 2, 1) := by decide +kernel
theorem dL_law__609 : decode cL_law_ 609 = .ok (.invokevirtual 136, 3) := by decide +kernel
theorem dL_law__612 : decode cL_law_ 612 = .ok (.iload 5, 2) := by decide +kernel
theorem dL_law__614 : decode cL_law_ 614 = .ok (.if_icmp .eq 5, 3) := by decide +kernel
theorem dL_law__617 : decode cL_law_ 617 = .ok (.iconst 0, 1) := by decide +kernel
theorem dL_law__618 : decode cL_law_ 618 = .ok (.ireturn, 1) := by decide +kernel
theorem dL_law__619 : decode cL_law_ 619 = .ok (.iload 5, 2) := by decide +kernel
theorem dL_law__621 : decode cL_law_ 621 = .ok (.ifCond .ne 15, 3) := by decide +kernel
theorem dL_law__624 : decode cL_law_ 624 = .ok (.aload_n 3, 1) := by decide +kernel
theorem dL_law__625 : decode cL_law_ 625 = .ok (.iconst 0, 1) := by decide +kernel
theorem dL_law__626 : decode cL_law_ 626 = .ok (.laload, 1) := by decide +kernel
theorem dL_law__627 : decode cL_law_ 627 = .ok (.iload 6, 2) := by decide +kernel
theorem dL_law__629 : decode cL_law_ 629 = .ok (.i2l, 1) := by decide +kernel
theorem dL_law__630 : decode cL_law_ 630 = .ok (.lcmp, 1) := by decide +kernel
theorem dL_law__631 : decode cL_law_ 631 = .ok (.ifCond .eq 5, 3) := by decide +kernel
theorem dL_law__634 : decode cL_law_ 634 = .ok (.iconst 0, 1) := by decide +kernel
theorem dL_law__635 : decode cL_law_ 635 = .ok (.ireturn, 1) := by decide +kernel
theorem dL_law__636 : decode cL_law_ 636 = .ok (.goto 1856, 3) := by decide +kernel
theorem dL_law__639 : decode cL_law_ 639 = .ok (.aload_n 1, 1) := by decide +kernel
theorem dL_law__640 : decode cL_law_ 640 = .ok (.aload_n 0, 1) := by decide +kernel
theorem dL_law__641 : decode cL_law_ 641 = .ok (.iload 4, 2) := by decide +kernel
theorem dL_law__643 : decode cL_law_ 643 = .ok (.iconst 1, 1) := by decide +kernel
theorem dL_law__644 : decode cL_law_ 644 = .ok (.iadd, 1) := by decide +kernel
theorem dL_law__645 : decode cL_law_ 645 = .ok (.iaload, 1) := by decide +kernel
theorem dL_law__646 : decode cL_law_ 646 = .ok (.aload_n 0, 1) := by decide +kernel
theorem dL_law__647 : decode cL_law_ 647 = .ok (.iload 4, 2) := by decide +kernel
theorem dL_law__649 : decode cL_law_ 649 = .ok (.iconst 2, 1) := by decide +kernel
theorem dL_law__650 : decode cL_law_ 650 = .ok (.iadd, 1) := by decide +kernel
theorem dL_law__651 : decode cL_law_ 651 = .ok (.iaload, 1) := by decide +kernel
theorem dL_law__652 : decode cL_law_ 652 = .ok (.aload_n 0, 1) := by decide +kernel
theorem dL_law__653 : decode cL_law_ 653 = .ok (.iload 4, 2) := by decide +kernel
theorem dL_law__655 : decode cL_law_ 655 = .ok (.iconst 3, 1) := by decide +kernel
theorem dL_law__656 : decode cL_law_ 656 = .ok (.iadd, 1) := by decide +kernel
theorem dL_law__657 : decode cL_law_ 657 = .ok (.iaload, 1) := by decide +kernel
theorem dL_law__658 : decode cL_law_ 658 = .ok (.aload_n 0, 1) := by decide +kernel
theorem dL_law__659 : decode cL_law_ 659 = .ok (.iload 4, 2) := by decide +kernel
theorem dL_law__661 : decode cL_law_ 661 = .ok (.iconst 4, 1) := by decide +kernel
theorem dL_law__662 : decode cL_law_ 662 = .ok (.iadd, 1) := by decide +kernel
theorem dL_law__663 : decode cL_law_ 663 = .ok (.iaload, 1) := by decide +kernel
theorem dL_law__664 : decode cL_law_ 664 = .ok (.ifCond .eq 7, 3) := by decide +kernel
theorem dL_law__667 : decode cL_law_ 667 = .ok (.iconst 1, 1) := by decide +kernel
theorem dL_law__668 : decode cL_law_ 668 = .ok (.goto 4, 3) := by decide +kernel
theorem dL_law__671 : decode cL_law_ 671 = .ok (.iconst 0, 1) := by decide +kernel
theorem dL_law__672 : decode cL_law_ 672 = .ok (.aload_n 3, 1) := by decide +kernel
theorem dL_law__673 : decode cL_law_ 673 = .ok (.invokestatic 157, 3) := by decide +kernel
theorem dL_law__676 : decode cL_law_ 676 = .ok (.istore 5, 2) := by decide +kernel
theorem dL_law__678 : decode cL_law_ 678 = .ok (.aload_n 2, 1) := by decide +kernel
theorem dL_law__679 : decode cL_law_ 679 = .ok (.aload_n 0, 1) := by decide +kernel
theorem dL_law__680 : decode cL_law_ 680 = .ok (.iload 4, 2) := by decide +kernel
theorem dL_law__682 : decode cL_law_ 682 = .ok (.iconst 1, 1) := by decide +kernel
theorem dL_law__683 : decode cL_law_ 683 = .ok (.iadd, 1) := by decide +kernel
theorem dL_law__684 : decode cL_law_ 684 = .ok (.iaload, 1) := by decide +kernel
theorem dL_law__685 : decode cL_law_ 685 = .ok (.aload_n 0, 1) := by decide +kernel
theorem dL_law__686 : decode cL_law_ 686 = .ok (.iload 4, 2) := by decide +kernel
theorem dL_law__688 : decode cL_law_ 688 = .ok (.iconst 2, 1) := by decide +kernel
theorem dL_law__689 : decode cL_law_ 689 = .ok (.iadd, 1) := by decide +kernel
theorem dL_law__690 : decode cL_law_ 690 = .ok (.iaload, 1) := by decide +kernel
theorem dL_law__691 : decode cL_law_ 691 = .ok (.aload_n 0, 1) := by decide +kernel
theorem dL_law__692 : decode cL_law_ 692 = .ok (.iload 4, 2) := by decide +kernel
theorem dL_law__694 : decode cL_law_ 694 = .ok (.iconst 3, 1) := by decide +kernel
theorem dL_law__695 : decode cL_law_ 695 = .ok (.iadd, 1) := by decide +kernel
theorem dL_law__696 : decode cL_law_ 696 = .ok (.iaload, 1) := by decide +kernel
theorem dL_law__697 : decode cL_law_ 697 = .ok (.aload_n 0, 1) := by decide +kernel
theorem dL_law__698 : decode cL_law_ 698 = .ok (.iload 4, 2) := by decide +kernel
theorem dL_law__700 : decode cL_law_ 700 = .ok (.iconst 4, 1) := by decide +kernel
theorem dL_law__701 : decode cL_law_ 701 = .ok (.iadd, 1) := by decide +kernel
theorem dL_law__702 : decode cL_law_ 702 = .ok (.iaload, 1) := by decide +kernel
theorem dL_law__703 : decode cL_law_ 703 = .ok (.ifCond .eq 7, 3) := by decide +kernel
theorem dL_law__706 : decode cL_law_ 706 = .ok (.iconst 1, 1) := by decide +kernel
theorem dL_law__707 : decode cL_law_ 707 = .ok (.goto 4, 3) := by decide +kernel
theorem dL_law__710 : decode cL_law_ 710 = .ok (.iconst 0, 1) := by decide +kernel
theorem dL_law__711 : decode cL_law_ 711 = .ok (.invokevirtual 160, 3) := by decide +kernel
theorem dL_law__714 : decode cL_law_ 714 = .ok (.istore 6, 2) := by decide +kernel
theorem dL_law__716 : decode cL_law_ 716 = .ok (.aload_n 2, 1) := by decide +kernel
theorem dL_law__717 : decode cL_law_ 717 = .ok (.invokevirtual 136, 3) := by decide +kernel
theorem dL_law__720 : decode cL_law_ 720 = .ok (.iload 5, 2) := by decide +kernel
theorem dL_law__722 : decode cL_law_ 722 = .ok (.if_icmp .eq 5, 3) := by decide +kernel
theorem dL_law__725 : decode cL_law_ 725 = .ok (.iconst 0, 1) := by decide +kernel
theorem dL_law__726 : decode cL_law_ 726 = .ok (.ireturn, 1) := by decide +kernel
theorem dL_law__727 : decode cL_law_ 727 = .ok (.iload 5, 2) := by decide +kernel
theorem dL_law__729 : decode cL_law_ 729 = .ok (.ifCond .ne 15, 3) := by decide +kernel
theorem dL_law__732 : decode cL_law_ 732 = .ok (.aload_n 3, 1) := by decide +kernel
theorem dL_law__733 : decode cL_law_ 733 = .ok (.iconst 0, 1) := by decide +kernel
theorem dL_law__734 : decode cL_law_ 734 = .ok (.laload, 1) := by decide +kernel
theorem dL_law__735 : decode cL_law_ 735 = .ok (.iload 6, 2) := by decide +kernel
theorem dL_law__737 : decode cL_law_ 737 = .ok (.i2l, 1) := by decide +kernel
theorem dL_law__738 : decode cL_law_ 738 = .ok (.lcmp, 1) := by decide +kernel
theorem dL_law__739 : decode cL_law_ 739 = .ok (.ifCond .eq 5, 3) := by decide +kernel
theorem dL_law__742 : decode cL_law_ 742 = .ok (.iconst 0, 1) := by decide +kernel
theorem dL_law__743 : decode cL_law_ 743 = .ok (.ireturn, 1) := by decide +kernel
theorem dL_law__744 : decode cL_law_ 744 = .ok (.goto 1748, 3) := by decide +kernel
theorem dL_law__747 : decode cL_law_ 747 = .ok (.aload_n 1, 1) := by decide +kernel
theorem dL_law__748 : decode cL_law_ 748 = .ok (.aload_n 0, 1) := by decide +kernel
theorem dL_law__749 : decode cL_law_ 749 = .ok (.iload 4, 2) := by decide +kernel
theorem dL_law__751 : decode cL_law_ 751 = .ok (.iconst 1, 1) := by decide +kernel
theorem dL_law__752 : decode cL_law_ 752 = .ok (.iadd, 1) := by decide +kernel
theorem dL_law__753 : decode cL_law_ 753 = .ok (.iaload, 1) := by decide +kernel
theorem dL_law__754 : decode cL_law_ 754 = .ok (.aload_n 3, 1) := by decide +kernel
theorem dL_law__755 : decode cL_law_ 755 = .ok (.invokestatic 161, 3) := by decide +kernel
theorem dL_law__758 : decode cL_law_ 758 = .ok (.istore 5, 2) := by decide +kernel
theorem dL_law__760 : decode cL_law_ 760 = .ok (.aload_n 2, 1) := by decide +kernel
theorem dL_law__761 : decode cL_law_ 761 = .ok (.aload_n 0, 1) := by decide +kernel
theorem dL_law__762 : decode cL_law_ 762 = .ok (.iload 4, 2) := by decide +kernel
theorem dL_law__764 : decode cL_law_ 764 = .ok (.iconst 1, 1) := by decide +kernel
theorem dL_law__765 : decode cL_law_ 765 = .ok (.iadd, 1) := by decide +kernel
theorem dL_law__766 : decode cL_law_ 766 = .ok (.iaload, 1) := by decide +kernel
theorem dL_law__767 : decode cL_law_ 767 = .ok (.invokevirtual 163, 3) := by decide +kernel
theorem dL_law__770 : decode cL_law_ 770 = .ok (.istore 6, 2) := by decide +kernel
theorem dL_law__772 : decode cL_law_ 772 = .ok (.aload_n 2, 1) := by decide +kernel
theorem dL_law__773 : decode cL_law_ 773 = .ok (.invokevirtual 136, 3) := by decide +kernel
theorem dL_law__776 : decode cL_law_ 776 = .ok (.iload 5, 2) := by decide +kernel
theorem dL_law__778 : decode cL_law_ 778 = .ok (.if_icmp .eq 5, 3) := by decide +kernel
theorem dL_law__781 : decode cL_law_ 781 = .ok (.iconst 0, 1) := by decide +kernel
theorem dL_law__782 : decode cL_law_ 782 = .ok (.ireturn, 1) := by decide +kernel
theorem dL_law__783 : decode cL_law_ 783 = .ok (.iload 5, 2) := by decide +kernel
theorem dL_law__785 : decode cL_law_ 785 = .ok (.ifCond .ne 15, 3) := by decide +kernel
theorem dL_law__788 : decode cL_law_ 788 = .ok (.aload_n 3, 1) := by decide +kernel
theorem dL_law__789 : decode cL_law_ 789 = .ok (.iconst 0, 1) := by decide +kernel
theorem dL_law__790 : decode cL_law_ 790 = .ok (.laload, 1) := by decide +kernel
theorem dL_law__791 : decode cL_law_ 791 = .ok (.iload 6, 2) := by decide +kernel
theorem dL_law__793 : decode cL_law_ 793 = .ok (.i2l, 1) := by decide +kernel
theorem dL_law__794 : decode cL_law_ 794 = .ok (.lcmp, 1) := by decide +kernel
theorem dL_law__795 : decode cL_law_ 795 = .ok (.ifCond .eq 5, 3) := by decide +kernel
theorem dL_law__798 : decode cL_law_ 798 = .ok (.iconst 0, 1) := by decide +kernel
theorem dL_law__799 : decode cL_law_ 799 = .ok (.ireturn, 1) := by decide +kernel
theorem dL_law__800 : decode cL_law_ 800 = .ok (.goto 1692, 3) := by decide +kernel
theorem dL_law__803 : decode cL_law_ 803 = .ok (.aload_n 1, 1) := by decide +kernel
theorem dL_law__804 : decode cL_law_ 804 = .ok (.aload_n 0, 1) := by decide +kernel
theorem dL_law__805 : decode cL_law_ 805 = .ok (.iload 4, 2) := by decide +kernel
theorem dL_law__807 : decode cL_law_ 807 = .ok (.iconst 1, 1) := by decide +kernel
theorem dL_law__808 : decode cL_law_ 808 = .ok (.iadd, 1) := by decide +kernel
theorem dL_law__809 : decode cL_law_ 809 = .ok (.iaload, 1) := by decide +kernel
theorem dL_law__810 : decode cL_law_ 810 = .ok (.aload_n 0, 1) := by decide +kernel
theorem dL_law__811 : decode cL_law_ 811 = .ok (.iload 4, 2) := by decide +kernel
theorem dL_law__813 : decode cL_law_ 813 = .ok (.iconst 2, 1) := by decide +kernel
theorem dL_law__814 : decode cL_law_ 814 = .ok (.iadd, 1) := by decide +kernel
theorem dL_law__815 : decode cL_law_ 815 = .ok (.iaload, 1) := by decide +kernel
theorem dL_law__816 : decode cL_law_ 816 = .ok (.invokestatic 164, 3) := by decide +kernel
theorem dL_law__819 : decode cL_law_ 819 = .ok (.istore 5, 2) := by decide +kernel
theorem dL_law__821 : decode cL_law_ 821 = .ok (.aload_n 2, 1) := by decide +kernel
theorem dL_law__822 : decode cL_law_ 822 = .ok (.aload_n 0, 1) := by decide +kernel
theorem dL_law__823 : decode cL_law_ 823 = .ok (.iload 4, 2) := by decide +kernel
theorem dL_law__825 : decode cL_law_ 825 = .ok (.iconst 1, 1) := by decide +kernel
theorem dL_law__826 : decode cL_law_ 826 = .ok (.iadd, 1) := by decide +kernel
theorem dL_law__827 : decode cL_law_ 827 = .ok (.iaload, 1) := by decide +kernel
theorem dL_law__828 : decode cL_law_ 828 = .ok (.aload_n 0, 1) := by decide +kernel
theorem dL_law__829 : decode cL_law_ 829 = .ok (.iload 4, 2) := by decide +kernel
theorem dL_law__831 : decode cL_law_ 831 = .ok (.iconst 2, 1) := by decide +kernel
theorem dL_law__832 : decode cL_law_ 832 = .ok (.iadd, 1) := by decide +kernel
theorem dL_law__833 : decode cL_law_ 833 = .ok (.iaload, 1) := by decide +kernel
theorem dL_law__834 : decode cL_law_ 834 = .ok (.invokevirtual 167, 3) := by decide +kernel
theorem dL_law__837 : decode cL_law_ 837 = .ok (.aload_n 2, 1) := by decide +kernel
theorem dL_law__838 : decode cL_law_ 838 = .ok (.invokevirtual 136, 3) := by decide +kernel
theorem dL_law__841 : decode cL_law_ 841 = .ok (.iload 5, 2) := by decide +kernel
theorem dL_law__843 : decode cL_law_ 843 = .ok (.if_icmp .eq 5, 3) := by decide +kernel
theorem dL_law__846 : decode cL_law_ 846 = .ok (.iconst 0, 1) := by decide +kernel
theorem dL_law__847 : decode cL_law_ 847 = .ok (.ireturn, 1) := by decide +kernel
theorem dL_law__848 : decode cL_law_ 848 = .ok (.goto 1644, 3) := by decide +kernel
theorem dL_law__851 : decode cL_law_ 851 = .ok (.aload_n 1, 1) := by decide +kernel
theorem dL_law__852 : decode cL_law_ 852 = .ok (.aload_n 0, 1) := by decide +kernel
theorem dL_law__853 : decode cL_law_ 853 = .ok (.iload 4, 2) := by decide +kernel
theorem dL_law__855 : decode cL_law_ 855 = .ok (.iconst 1, 1) := by decide +kernel
theorem dL_law__856 : decode cL_law_ 856 = .ok (.iadd, 1) := by decide +kernel
theorem dL_law__857 : decode cL_law_ 857 = .ok (.iaload, 1) := by decide +kernel
theorem dL_law__858 : decode cL_law_ 858 = .ok (.aload_n 3, 1) := by decide +kernel
theorem dL_law__859 : decode cL_law_ 859 = .ok (.invokestatic 168, 3) := by decide +kernel
theorem dL_law__862 : decode cL_law_ 862 = .ok (.istore 5, 2) := by decide +kernel
theorem dL_law__864 : decode cL_law_ 864 = .ok (.aload_n 2, 1) := by decide +kernel
theorem dL_law__865 : decode cL_law_ 865 = .ok (.aload_n 0, 1) := by decide +kernel
theorem dL_law__866 : decode cL_law_ 866 = .ok (.iload 4, 2) := by decide +kernel
theorem dL_law__868 : decode cL_law_ 868 = .ok (.iconst 1, 1) := by decide +kernel
theorem dL_law__869 : decode cL_law_ 869 = .ok (.iadd, 1) := by decide +kernel
theorem dL_law__870 : decode cL_law_ 870 = .ok (.iaload, 1) := by decide +kernel
theorem dL_law__871 : decode cL_law_ 871 = .ok (.invokevirtual 170, 3) := by decide +kernel
theorem dL_law__874 : decode cL_law_ 874 = .ok (.istore 6, 2) := by decide +kernel
theorem dL_law__876 : decode cL_law_ 876 = .ok (.aload_n 2, 1) := by decide +kernel
theorem dL_law__877 : decode cL_law_ 877 = .ok (.invokevirtual 136, 3) := by decide +kernel
theorem dL_law__880 : decode cL_law_ 880 = .ok (.iload 5, 2) := by decide +kernel
theorem dL_law__882 : decode cL_law_ 882 = .ok (.if_icmp .eq 5, 3) := by decide +kernel
theorem dL_law__885 : decode cL_law_ 885 = .ok (.iconst 0, 1) := by decide +kernel
theorem dL_law__886 : decode cL_law_ 886 = .ok (.ireturn, 1) := by decide +kernel
theorem dL_law__887 : decode cL_law_ 887 = .ok (.iload 5, 2) := by decide +kernel
theorem dL_law__889 : decode cL_law_ 889 = .ok (.ifCond .ne 15, 3) := by decide +kernel
theorem dL_law__892 : decode cL_law_ 892 = .ok (.aload_n 3, 1) := by decide +kernel
theorem dL_law__893 : decode cL_law_ 893 = .ok (.iconst 0, 1) := by decide +kernel
theorem dL_law__894 : decode cL_law_ 894 = .ok (.laload, 1) := by decide +kernel
theorem dL_law__895 : decode cL_law_ 895 = .ok (.iload 6, 2) := by decide +kernel
theorem dL_law__897 : decode cL_law_ 897 = .ok (.i2l, 1) := by decide +kernel
theorem dL_law__898 : decode cL_law_ 898 = .ok (.lcmp, 1) := by decide +kernel
theorem dL_law__899 : decode cL_law_ 899 = .ok (.ifCond .eq 5, 3) := by decide +kernel
theorem dL_law__902 : decode cL_law_ 902 = .ok (.iconst 0, 1) := by decide +kernel
theorem dL_law__903 : decode cL_law_ 903 = .ok (.ireturn, 1) := by decide +kernel
theorem dL_law__904 : decode cL_law_ 904 = .ok (.goto 1588, 3) := by decide +kernel
theorem dL_law__907 : decode cL_law_ 907 = .ok (.aload_n 1, 1) := by decide +kernel
theorem dL_law__908 : decode cL_law_ 908 = .ok (.aload_n 0, 1) := by decide +kernel
theorem dL_law__909 : decode cL_law_ 909 = .ok (.iload 4, 2) := by decide +kernel
theorem dL_law__911 : decode cL_law_ 911 = .ok (.iconst 1, 1) := by decide +kernel
theorem dL_law__912 : decode cL_law_ 912 = .ok (.iadd, 1) := by decide +kernel
theorem dL_law__913 : decode cL_law_ 913 = .ok (.iaload, 1) := by decide +kernel
theorem dL_law__914 : decode cL_law_ 914 = .ok (.aload_n 3, 1) := by decide +kernel
theorem dL_law__915 : decode cL_law_ 915 = .ok (.invokestatic 171, 3) := by decide +kernel
theorem dL_law__918 : decode cL_law_ 918 = .ok (.istore 5, 2) := by decide +kernel
theorem dL_law__920 : decode cL_law_ 920 = .ok (.aload_n 2, 1) := by decide +kernel
theorem dL_law__921 : decode cL_law_ 921 = .ok (.aload_n 0, 1) := by decide +kernel
theorem dL_law__922 : decode cL_law_ 922 = .ok (.iload 4, 2) := by decide +kernel
theorem dL_law__924 : decode cL_law_ 924 = .ok (.iconst 1, 1) := by decide +kernel
theorem dL_law__925 : decode cL_law_ 925 = .ok (.iadd, 1) := by decide +kernel
theorem dL_law__926 : decode cL_law_ 926 = .ok (.iaload, 1) := by decide +kernel
theorem dL_law__927 : decode cL_law_ 927 = .ok (.invokevirtual 173, 3) := by decide +kernel
theorem dL_law__930 : decode cL_law_ 930 = .ok (.istore 6, 2) := by decide +kernel
theorem dL_law__932 : decode cL_law_ 932 = .ok (.aload_n 2, 1) := by decide +kernel
theorem dL_law__933 : decode cL_law_ 933 = .ok (.invokevirtual 136, 3) := by decide +kernel
theorem dL_law__936 : decode cL_law_ 936 = .ok (.iload 5, 2) := by decide +kernel
theorem dL_law__938 : decode cL_law_ 938 = .ok (.if_icmp .eq 5, 3) := by decide +kernel
theorem dL_law__941 : decode cL_law_ 941 = .ok (.iconst 0, 1) := by decide +kernel
theorem dL_law__942 : decode cL_law_ 942 = .ok (.ireturn, 1) := by decide +kernel
theorem dL_law__943 : decode cL_law_ 943 = .ok (.iload 5, 2) := by decide +kernel
theorem dL_law__945 : decode cL_law_ 945 = .ok (.ifCond .ne 15, 3) := by decide +kernel
theorem dL_law__948 : decode cL_law_ 948 = .ok (.aload_n 3, 1) := by decide +kernel
theorem dL_law__949 : decode cL_law_ 949 = .ok (.iconst 0, 1) := by decide +kernel
theorem dL_law__950 : decode cL_law_ 950 = .ok (.laload, 1) := by decide +kernel
theorem dL_law__951 : decode cL_law_ 951 = .ok (.iload 6, 2) := by decide +kernel
theorem dL_law__953 : decode cL_law_ 953 = .ok (.i2l, 1) := by decide +kernel
theorem dL_law__954 : decode cL_law_ 954 = .ok (.lcmp, 1) := by decide +kernel
theorem dL_law__955 : decode cL_law_ 955 = .ok (.ifCond .eq 5, 3) := by decide +kernel
theorem dL_law__958 : decode cL_law_ 958 = .ok (.iconst 0, 1) := by decide +kernel
theorem dL_law__959 : decode cL_law_ 959 = .ok (.ireturn, 1) := by decide +kernel
theorem dL_law__960 : decode cL_law_ 960 = .ok (.goto 1532, 3) := by decide +kernel
theorem dL_law__963 : decode cL_law_ 963 = .ok (.aload_n 1, 1) := by decide +kernel
theorem dL_law__964 : decode cL_law_ 964 = .ok (.aload_n 0, 1) := by decide +kernel
theorem dL_law__965 : decode cL_law_ 965 = .ok (.iload 4, 2) := by decide +kernel
theorem dL_law__967 : decode cL_law_ 967 = .ok (.iconst 1, 1) := by decide +kernel
theorem dL_law__968 : decode cL_law_ 968 = .ok (.iadd, 1) := by decide +kernel
theorem dL_law__969 : decode cL_law_ 969 = .ok (.iaload, 1) := by decide +kernel
theorem dL_law__970 : decode cL_law_ 970 = .ok (.invokestatic 174, 3) := by decide +kernel
theorem dL_law__973 : decode cL_law_ 973 = .ok (.istore 5, 2) := by decide +kernel
theorem dL_law__975 : decode cL_law_ 975 = .ok (.aload_n 2, 1) := by decide +kernel
theorem dL_law__976 : decode cL_law_ 976 = .ok (.aload_n 0, 1) := by decide +kernel
theorem dL_law__977 : decode cL_law_ 977 = .ok (.iload 4, 2) := by decide +kernel
theorem dL_law__979 : decode cL_law_ 979 = .ok (.iconst 1, 1) := by decide +kernel
theorem dL_law__980 : decode cL_law_ 980 = .ok (.iadd, 1) := by decide +kernel
theorem dL_law__981 : decode cL_law_ 981 = .ok (.iaload, 1) := by decide +kernel
theorem dL_law__982 : decode cL_law_ 982 = .ok (.invokevirtual 177, 3) := by decide +kernel
theorem dL_law__985 : decode cL_law_ 985 = .ok (.aload_n 2, 1) := by decide +kernel
theorem dL_law__986 : decode cL_law_ 986 = .ok (.invokevirtual 136, 3) := by decide +kernel
theorem dL_law__989 : decode cL_law_ 989 = .ok (.iload 5, 2) := by decide +kernel
theorem dL_law__991 : decode cL_law_ 991 = .ok (.if_icmp .eq 5, 3) := by decide +kernel
theorem dL_law__994 : decode cL_law_ 994 = .ok (.iconst 0, 1) := by decide +kernel
theorem dL_law__995 : decode cL_law_ 995 = .ok (.ireturn, 1) := by decide +kernel
theorem dL_law__996 : decode cL_law_ 996 = .ok (.goto 1496, 3) := by decide +kernel
theorem dL_law__999 : decode cL_law_ 999 = .ok (.aload_n 1, 1) := by decide +kernel
theorem dL_law__1000 : decode cL_law_ 1000 = .ok (.aload_n 0, 1) := by decide +kernel
theorem dL_law__1001 : decode cL_law_ 1001 = .ok (.iload 4, 2) := by decide +kernel
theorem dL_law__1003 : decode cL_law_ 1003 = .ok (.iconst 1, 1) := by decide +kernel
theorem dL_law__1004 : decode cL_law_ 1004 = .ok (.iadd, 1) := by decide +kernel
theorem dL_law__1005 : decode cL_law_ 1005 = .ok (.iaload, 1) := by decide +kernel
theorem dL_law__1006 : decode cL_law_ 1006 = .ok (.aload_n 3, 1) := by decide +kernel
theorem dL_law__1007 : decode cL_law_ 1007 = .ok (.invokestatic 178, 3) := by decide +kernel
theorem dL_law__1010 : decode cL_law_ 1010 = .ok (.istore 5, 2) := by decide +kernel
theorem dL_law__1012 : decode cL_law_ 1012 = .ok (.aload_n 2, 1) := by decide +kernel
theorem dL_law__1013 : decode cL_law_ 1013 = .ok (.aload_n 0, 1) := by decide +kernel
theorem dL_law__1014 : decode cL_law_ 1014 = .ok (.iload 4, 2) := by decide +kernel
theorem dL_law__1016 : decode cL_law_ 1016 = .ok (.iconst 1, 1) := by decide +kernel
theorem dL_law__1017 : decode cL_law_ 1017 = .ok (.iadd, 1) := by decide +kernel
theorem dL_law__1018 : decode cL_law_ 1018 = .ok (.iaload, 1) := by decide +kernel
theorem dL_law__1019 : decode cL_law_ 1019 = .ok (.invokevirtual 180, 3) := by decide +kernel
theorem dL_law__1022 : decode cL_law_ 1022 = .ok (.istore 6, 2) := by decide +kernel
theorem dL_law__1024 : decode cL_law_ 1024 = .ok (.aload_n 2, 1) := by decide +kernel
theorem dL_law__1025 : decode cL_law_ 1025 = .ok (.invokevirtual 136, 3) := by decide +kernel
theorem dL_law__1028 : decode cL_law_ 1028 = .ok (.iload 5, 2) := by decide +kernel
theorem dL_law__1030 : decode cL_law_ 1030 = .ok (.if_icmp .eq 5, 3) := by decide +kernel
theorem dL_law__1033 : decode cL_law_ 1033 = .ok (.iconst 0, 1) := by decide +kernel
theorem dL_law__1034 : decode cL_law_ 1034 = .ok (.ireturn, 1) := by decide +kernel
theorem dL_law__1035 : decode cL_law_ 1035 = .ok (.iload 5, 2) := by decide +kernel
theorem dL_law__1037 : decode cL_law_ 1037 = .ok (.ifCond .ne 15, 3) := by decide +kernel
theorem dL_law__1040 : decode cL_law_ 1040 = .ok (.aload_n 3, 1) := by decide +kernel
theorem dL_law__1041 : decode cL_law_ 1041 = .ok (.iconst 0, 1) := by decide +kernel
theorem dL_law__1042 : decode cL_law_ 1042 = .ok (.laload, 1) := by decide +kernel
theorem dL_law__1043 : decode cL_law_ 1043 = .ok (.iload 6, 2) := by decide +kernel
theorem dL_law__1045 : decode cL_law_ 1045 = .ok (.i2l, 1) := by decide +kernel
theorem dL_law__1046 : decode cL_law_ 1046 = .ok (.lcmp, 1) := by decide +kernel
theorem dL_law__1047 : decode cL_law_ 1047 = .ok (.ifCond .eq 5, 3) := by decide +kernel
theorem dL_law__1050 : decode cL_law_ 1050 = .ok (.iconst 0, 1) := by decide +kernel
theorem dL_law__1051 : decode cL_law_ 1051 = .ok (.ireturn, 1) := by decide +kernel
theorem dL_law__1052 : decode cL_law_ 1052 = .ok (.goto 1440, 3) := by decide +kernel
theorem dL_law__1055 : decode cL_law_ 1055 = .ok (.aload_n 1, 1) := by decide +kernel
theorem dL_law__1056 : decode cL_law_ 1056 = .ok (.aload_n 0, 1) := by decide +kernel
theorem dL_law__1057 : decode cL_law_ 1057 = .ok (.iload 4, 2) := by decide +kernel
theorem dL_law__1059 : decode cL_law_ 1059 = .ok (.iconst 1, 1) := by decide +kernel
theorem dL_law__1060 : decode cL_law_ 1060 = .ok (.iadd, 1) := by decide +kernel
theorem dL_law__1061 : decode cL_law_ 1061 = .ok (.iaload, 1) := by decide +kernel
theorem dL_law__1062 : decode cL_law_ 1062 = .ok (.aload_n 3, 1) := by decide +kernel
theorem dL_law__1063 : decode cL_law_ 1063 = .ok (.invokestatic 181, 3) := by decide +kernel
theorem dL_law__1066 : decode cL_law_ 1066 = .ok (.istore 5, 2) := by decide +kernel
theorem dL_law__1068 : decode cL_law_ 1068 = .ok (.aload_n 2, 1) := by decide +kernel
theorem dL_law__1069 : decode cL_law_ 1069 = .ok (.aload_n 0, 1) := by decide +kernel
theorem dL_law__1070 : decode cL_law_ 1070 = .ok (.iload 4, 2) := by decide +kernel
theorem dL_law__1072 : decode cL_law_ 1072 = .ok (.iconst 1, 1) := by decide +kernel
theorem dL_law__1073 : decode cL_law_ 1073 = .ok (.iadd, 1) := by decide +kernel
theorem dL_law__1074 : decode cL_law_ 1074 = .ok (.iaload, 1) := by decide +kernel
theorem dL_law__1075 : decode cL_law_ 1075 = .ok (.invokevirtual 183, 3) := by decide +kernel
theorem dL_law__1078 : decode cL_law_ 1078 = .ok (.istore 6, 2) := by decide +kernel
theorem dL_law__1080 : decode cL_law_ 1080 = .ok (.aload_n 2, 1) := by decide +kernel
theorem dL_law__1081 : decode cL_law_ 1081 = .ok (.invokevirtual 136, 3) := by decide +kernel
theorem dL_law__1084 : decode cL_law_ 1084 = .ok (.iload 5, 2) := by decide +kernel
theorem dL_law__1086 : decode cL_law_ 1086 = .ok (.if_icmp .eq 5, 3) := by decide +kernel
theorem dL_law__1089 : decode cL_law_ 1089 = .ok (.iconst 0, 1) := by decide +kernel
theorem dL_law__1090 : decode cL_law_ 1090 = .ok (.ireturn, 1) := by decide +kernel
theorem dL_law__1091 : decode cL_law_ 1091 = .ok (.iload 5, 2) := by decide +kernel
theorem dL_law__1093 : decode cL_law_ 1093 = .ok (.ifCond .ne 15, 3) := by decide +kernel
theorem dL_law__1096 : decode cL_law_ 1096 = .ok (.aload_n 3, 1) := by decide +kernel
theorem dL_law__1097 : decode cL_law_ 1097 = .ok (.iconst 0, 1) := by decide +kernel
theorem dL_law__1098 : decode cL_law_ 1098 = .ok (.laload, 1) := by decide +kernel
theorem dL_law__1099 : decode cL_law_ 1099 = .ok (.iload 6, 2) := by decide +kernel
theorem dL_law__1101 : decode cL_law_ 1101 = .ok (.i2l, 1) := by decide +kernel
theorem dL_law__1102 : decode cL_law_ 1102 = .ok (.lcmp, 1) := by decide +kernel
theorem dL_law__1103 : decode cL_law_ 1103 = .ok (.ifCond .eq 5, 3) := by decide +kernel
theorem dL_law__1106 : decode cL_law_ 1106 = .ok (.iconst 0, 1) := by decide +kernel
theorem dL_law__1107 : decode cL_law_ 1107 = .ok (.ireturn, 1) := by decide +kernel
theorem dL_law__1108 : decode cL_law_ 1108 = .ok (.goto 1384, 3) := by decide +kernel
theorem dL_law__1111 : decode cL_law_ 1111 = .ok (.aload_n 1, 1) := by decide +kernel
theorem dL_law__1112 : decode cL_law_ 1112 = .ok (.aload_n 0, 1) := by decide +kernel
theorem dL_law__1113 : decode cL_law_ 1113 = .ok (.iload 4, 2) := by decide +kernel
theorem dL_law__1115 : decode cL_law_ 1115 = .ok (.iconst 1, 1) := by decide +kernel
theorem dL_law__1116 : decode cL_law_ 1116 = .ok (.iadd, 1) := by decide +kernel
theorem dL_law__1117 : decode cL_law_ 1117 = .ok (.iaload, 1) := by decide +kernel
theorem dL_law__1118 : decode cL_law_ 1118 = .ok (.aload_n 3, 1) := by decide +kernel
theorem dL_law__1119 : decode cL_law_ 1119 = .ok (.invokestatic 184, 3) := by decide +kernel
theorem dL_law__1122 : decode cL_law_ 1122 = .ok (.istore 5, 2) := by decide +kernel
theorem dL_law__1124 : decode cL_law_ 1124 = .ok (.aload_n 2, 1) := by decide +kernel
theorem dL_law__1125 : decode cL_law_ 1125 = .ok (.aload_n 0, 1) := by decide +kernel
theorem dL_law__1126 : decode cL_law_ 1126 = .ok (.iload 4, 2) := by decide +kernel
theorem dL_law__1128 : decode cL_law_ 1128 = .ok (.iconst 1, 1) := by decide +kernel
theorem dL_law__1129 : decode cL_law_ 1129 = .ok (.iadd, 1) := by decide +kernel
theorem dL_law__1130 : decode cL_law_ 1130 = .ok (.iaload, 1) := by decide +kernel
theorem dL_law__1131 : decode cL_law_ 1131 = .ok (.invokevirtual 186, 3) := by decide +kernel
theorem dL_law__1134 : decode cL_law_ 1134 = .ok (.istore 6, 2) := by decide +kernel
theorem dL_law__1136 : decode cL_law_ 1136 = .ok (.aload_n 2, 1) := by decide +kernel
theorem dL_law__1137 : decode cL_law_ 1137 = .ok (.invokevirtual 136, 3) := by decide +kernel
theorem dL_law__1140 : decode cL_law_ 1140 = .ok (.iload 5, 2) := by decide +kernel
theorem dL_law__1142 : decode cL_law_ 1142 = .ok (.if_icmp .eq 5, 3) := by decide +kernel
theorem dL_law__1145 : decode cL_law_ 1145 = .ok (.iconst 0, 1) := by decide +kernel
theorem dL_law__1146 : decode cL_law_ 1146 = .ok (.ireturn, 1) := by decide +kernel
theorem dL_law__1147 : decode cL_law_ 1147 = .ok (.iload 5, 2) := by decide +kernel
theorem dL_law__1149 : decode cL_law_ 1149 = .ok (.ifCond .ne 15, 3) := by decide +kernel
theorem dL_law__1152 : decode cL_law_ 1152 = .ok (.aload_n 3, 1) := by decide +kernel
theorem dL_law__1153 : decode cL_law_ 1153 = .ok (.iconst 0, 1) := by decide +kernel
theorem dL_law__1154 : decode cL_law_ 1154 = .ok (.laload, 1) := by decide +kernel
theorem dL_law__1155 : decode cL_law_ 1155 = .ok (.iload 6, 2) := by decide +kernel
theorem dL_law__1157 : decode cL_law_ 1157 = .ok (.i2l, 1) := by decide +kernel
theorem dL_law__1158 : decode cL_law_ 1158 = .ok (.lcmp, 1) := by decide +kernel
theorem dL_law__1159 : decode cL_law_ 1159 = .ok (.ifCond .eq 5, 3) := by decide +kernel
theorem dL_law__1162 : decode cL_law_ 1162 = .ok (.iconst 0, 1) := by decide +kernel
theorem dL_law__1163 : decode cL_law_ 1163 = .ok (.ireturn, 1) := by decide +kernel
theorem dL_law__1164 : decode cL_law_ 1164 = .ok (.goto 1328, 3) := by decide +kernel
theorem dL_law__1167 : decode cL_law_ 1167 = .ok (.aload_n 1, 1) := by decide +kernel
theorem dL_law__1168 : decode cL_law_ 1168 = .ok (.aload_n 0, 1) := by decide +kernel
theorem dL_law__1169 : decode cL_law_ 1169 = .ok (.iload 4, 2) := by decide +kernel
theorem dL_law__1171 : decode cL_law_ 1171 = .ok (.iconst 1, 1) := by decide +kernel
theorem dL_law__1172 : decode cL_law_ 1172 = .ok (.iadd, 1) := by decide +kernel
theorem dL_law__1173 : decode cL_law_ 1173 = .ok (.iaload, 1) := by decide +kernel
theorem dL_law__1174 : decode cL_law_ 1174 = .ok (.aload_n 3, 1) := by decide +kernel
theorem dL_law__1175 : decode cL_law_ 1175 = .ok (.invokestatic 187, 3) := by decide +kernel
theorem dL_law__1178 : decode cL_law_ 1178 = .ok (.istore 5, 2) := by decide +kernel
theorem dL_law__1180 : decode cL_law_ 1180 = .ok (.aload_n 2, 1) := by decide +kernel
theorem dL_law__1181 : decode cL_law_ 1181 = .ok (.aload_n 0, 1) := by decide +kernel
theorem dL_law__1182 : decode cL_law_ 1182 = .ok (.iload 4, 2) := by decide +kernel
theorem dL_law__1184 : decode cL_law_ 1184 = .ok (.iconst 1, 1) := by decide +kernel
theorem dL_law__1185 : decode cL_law_ 1185 = .ok (.iadd, 1) := by decide +kernel
theorem dL_law__1186 : decode cL_law_ 1186 = .ok (.iaload, 1) := by decide +kernel
theorem dL_law__1187 : decode cL_law_ 1187 = .ok (.invokevirtual 189, 3) := by decide +kernel
theorem dL_law__1190 : decode cL_law_ 1190 = .ok (.istore 6, 2) := by decide +kernel
theorem dL_law__1192 : decode cL_law_ 1192 = .ok (.aload_n 2, 1) := by decide +kernel
theorem dL_law__1193 : decode cL_law_ 1193 = .ok (.invokevirtual 136, 3) := by decide +kernel
theorem dL_law__1196 : decode cL_law_ 1196 = .ok (.iload 5, 2) := by decide +kernel
theorem dL_law__1198 : decode cL_law_ 1198 = .ok (.if_icmp .eq 5, 3) := by decide +kernel
theorem dL_law__1201 : decode cL_law_ 1201 = .ok (.iconst 0, 1) := by decide +kernel
theorem dL_law__1202 : decode cL_law_ 1202 = .ok (.ireturn, 1) := by decide +kernel
theorem dL_law__1203 : decode cL_law_ 1203 = .ok (.iload 5, 2) := by decide +kernel
theorem dL_law__1205 : decode cL_law_ 1205 = .ok (.ifCond .ne 15, 3) := by decide +kernel
theorem dL_law__1208 : decode cL_law_ 1208 = .ok (.aload_n 3, 1) := by decide +kernel
theorem dL_law__1209 : decode cL_law_ 1209 = .ok (.iconst 0, 1) := by decide +kernel
theorem dL_law__1210 : decode cL_law_ 1210 = .ok (.laload, 1) := by decide +kernel
theorem dL_law__1211 : decode cL_law_ 1211 = .ok (.iload 6, 2) := by decide +kernel
theorem dL_law__1213 : decode cL_law_ 1213 = .ok (.i2l, 1) := by decide +kernel
theorem dL_law__1214 : decode cL_law_ 1214 = .ok (.lcmp, 1) := by decide +kernel
theorem dL_law__1215 : decode cL_law_ 1215 = .ok (.ifCond .eq 5, 3) := by decide +kernel
theorem dL_law__1218 : decode cL_law_ 1218 = .ok (.iconst 0, 1) := by decide +kernel
theorem dL_law__1219 : decode cL_law_ 1219 = .ok (.ireturn, 1) := by decide +kernel
theorem dL_law__1220 : decode cL_law_ 1220 = .ok (.goto 1272, 3) := by decide +kernel
theorem dL_law__1223 : decode cL_law_ 1223 = .ok (.aload_n 1, 1) := by decide +kernel
theorem dL_law__1224 : decode cL_law_ 1224 = .ok (.aload_n 0, 1) := by decide +kernel
theorem dL_law__1225 : decode cL_law_ 1225 = .ok (.iload 4, 2) := by decide +kernel
theorem dL_law__1227 : decode cL_law_ 1227 = .ok (.iconst 1, 1) := by decide +kernel
theorem dL_law__1228 : decode cL_law_ 1228 = .ok (.iadd, 1) := by decide +kernel
theorem dL_law__1229 : decode cL_law_ 1229 = .ok (.iaload, 1) := by decide +kernel
theorem dL_law__1230 : decode cL_law_ 1230 = .ok (.aload_n 0, 1) := by decide +kernel
theorem dL_law__1231 : decode cL_law_ 1231 = .ok (.iload 4, 2) := by decide +kernel
theorem dL_law__1233 : decode cL_law_ 1233 = .ok (.iconst 2, 1) := by decide +kernel
theorem dL_law__1234 : decode cL_law_ 1234 = .ok (.iadd, 1) := by decide +kernel
theorem dL_law__1235 : decode cL_law_ 1235 = .ok (.iaload, 1) := by decide +kernel
theorem dL_law__1236 : decode cL_law_ 1236 = .ok (.aload_n 3, 1) := by decide +kernel
theorem dL_law__1237 : decode cL_law_ 1237 = .ok (.invokestatic 190, 3) := by decide +kernel
theorem dL_law__1240 : decode cL_law_ 1240 = .ok (.istore 5, 2) := by decide +kernel
theorem dL_law__1242 : decode cL_law_ 1242 = .ok (.aload_n 2, 1) := by decide +kernel
theorem dL_law__1243 : decode cL_law_ 1243 = .ok (.aload_n 0, 1) := by decide +kernel
theorem dL_law__1244 : decode cL_law_ 1244 = .ok (.iload 4, 2) := by decide +kernel
theorem dL_law__1246 : decode cL_law_ 1246 = .ok (.iconst 1, 1) := by decide +kernel
theorem dL_law__1247 : decode cL_law_ 1247 = .ok (.iadd, 1) := by decide +kernel
theorem dL_law__1248 : decode cL_law_ 1248 = .ok (.iaload, 1) := by decide +kernel
theorem dL_law__1249 : decode cL_law_ 1249 = .ok (.aload_n 0, 1) := by decide +kernel
theorem dL_law__1250 : decode cL_law_ 1250 = .ok (.iload 4, 2) := by decide +kernel
theorem dL_law__1252 : decode cL_law_ 1252 = .ok (.iconst 2, 1) := by decide +kernel
theorem dL_law__1253 : decode cL_law_ 1253 = .ok (.iadd, 1) := by decide +kernel
theorem dL_law__1254 : decode cL_law_ 1254 = .ok (.iaload, 1) := by decide +kernel
theorem dL_law__1255 : decode cL_law_ 1255 = .ok (.invokevirtual 192, 3) := by decide +kernel
theorem dL_law__1258 : decode cL_law_ 1258 = .ok (.istore 6, 2) := by decide +kernel
theorem dL_law__1260 : decode cL_law_ 1260 = .ok (.aload_n 2, 1) := by decide +kernel
theorem dL_law__1261 : decode cL_law_ 1261 = .ok (.invokevirtual 136, 3) := by decide +kernel
theorem dL_law__1264 : decode cL_law_ 1264 = .ok (.iload 5, 2) := by decide +kernel
theorem dL_law__1266 : decode cL_law_ 1266 = .ok (.if_icmp .eq 5, 3) := by decide +kernel
theorem dL_law__1269 : decode cL_law_ 1269 = .ok (.iconst 0, 1) := by decide +kernel
theorem dL_law__1270 : decode cL_law_ 1270 = .ok (.ireturn, 1) := by decide +kernel
theorem dL_law__1271 : decode cL_law_ 1271 = .ok (.iload 5, 2) := by decide +kernel
theorem dL_law__1273 : decode cL_law_ 1273 = .ok (.ifCond .ne 15, 3) := by decide +kernel
theorem dL_law__1276 : decode cL_law_ 1276 = .ok (.aload_n 3, 1) := by decide +kernel
theorem dL_law__1277 : decode cL_law_ 1277 = .ok (.iconst 0, 1) := by decide +kernel
theorem dL_law__1278 : decode cL_law_ 1278 = .ok (.laload, 1) := by decide +kernel
theorem dL_law__1279 : decode cL_law_ 1279 = .ok (.iload 6, 2) := by decide +kernel
theorem dL_law__1281 : decode cL_law_ 1281 = .ok (.i2l, 1) := by decide +kernel
theorem dL_law__1282 : decode cL_law_ 1282 = .ok (.lcmp, 1) := by decide +kernel
theorem dL_law__1283 : decode cL_law_ 1283 = .ok (.ifCond .eq 5, 3) := by decide +kernel
theorem dL_law__1286 : decode cL_law_ 1286 = .ok (.iconst 0, 1) := by decide +kernel
theorem dL_law__1287 : decode cL_law_ 1287 = .ok (.ireturn, 1) := by decide +kernel
theorem dL_law__1288 : decode cL_law_ 1288 = .ok (.goto 1204, 3) := by decide +kernel
theorem dL_law__1291 : decode cL_law_ 1291 = .ok (.aload_n 1, 1) := by decide +kernel
theorem dL_law__1292 : decode cL_law_ 1292 = .ok (.aload_n 0, 1) := by decide +kernel
theorem dL_law__1293 : decode cL_law_ 1293 = .ok (.iload 4, 2) := by decide +kernel
theorem dL_law__1295 : decode cL_law_ 1295 = .ok (.iconst 1, 1) := by decide +kernel
theorem dL_law__1296 : decode cL_law_ 1296 = .ok (.iadd, 1) := by decide +kernel
theorem dL_law__1297 : decode cL_law_ 1297 = .ok (.iaload, 1) := by decide +kernel
theorem dL_law__1298 : decode cL_law_ 1298 = .ok (.aload_n 3, 1) := by decide +kernel
theorem dL_law__1299 : decode cL_law_ 1299 = .ok (.invokestatic 193, 3) := by decide +kernel
theorem dL_law__1302 : decode cL_law_ 1302 = .ok (.istore 5, 2) := by decide +kernel
theorem dL_law__1304 : decode cL_law_ 1304 = .ok (.aload_n 2, 1) := by decide +kernel
theorem dL_law__1305 : decode cL_law_ 1305 = .ok (.aload_n 0, 1) := by decide +kernel
theorem dL_law__1306 : decode cL_law_ 1306 = .ok (.iload 4, 2) := by decide +kernel
theorem dL_law__1308 : decode cL_law_ 1308 = .ok (.iconst 1, 1) := by decide +kernel
theorem dL_law__1309 : decode cL_law_ 1309 = .ok (.iadd, 1) := by decide +kernel
theorem dL_law__1310 : decode cL_law_ 1310 = .ok (.iaload, 1) := by decide +kernel
theorem dL_law__1311 : decode cL_law_ 1311 = .ok (.invokevirtual 195, 3) := by decide +kernel
theorem dL_law__1314 : decode cL_law_ 1314 = .ok (.istore 6, 2) := by decide +kernel
theorem dL_law__1316 : decode cL_law_ 1316 = .ok (.aload_n 2, 1) := by decide +kernel
theorem dL_law__1317 : decode cL_law_ 1317 = .ok (.invokevirtual 136, 3) := by decide +kernel
theorem dL_law__1320 : decode cL_law_ 1320 = .ok (.iload 5, 2) := by decide +kernel
theorem dL_law__1322 : decode cL_law_ 1322 = .ok (.if_icmp .eq 5, 3) := by decide +kernel
theorem dL_law__1325 : decode cL_law_ 1325 = .ok (.iconst 0, 1) := by decide +kernel
theorem dL_law__1326 : decode cL_law_ 1326 = .ok (.ireturn, 1) := by decide +kernel
theorem dL_law__1327 : decode cL_law_ 1327 = .ok (.iload 5, 2) := by decide +kernel
theorem dL_law__1329 : decode cL_law_ 1329 = .ok (.ifCond .ne 15, 3) := by decide +kernel
theorem dL_law__1332 : decode cL_law_ 1332 = .ok (.aload_n 3, 1) := by decide +kernel
theorem dL_law__1333 : decode cL_law_ 1333 = .ok (.iconst 0, 1) := by decide +kernel
theorem dL_law__1334 : decode cL_law_ 1334 = .ok (.laload, 1) := by decide +kernel
theorem dL_law__1335 : decode cL_law_ 1335 = .ok (.iload 6, 2) := by decide +kernel
theorem dL_law__1337 : decode cL_law_ 1337 = .ok (.i2l, 1) := by decide +kernel
theorem dL_law__1338 : decode cL_law_ 1338 = .ok (.lcmp, 1) := by decide +kernel
theorem dL_law__1339 : decode cL_law_ 1339 = .ok (.ifCond .eq 5, 3) := by decide +kernel
theorem dL_law__1342 : decode cL_law_ 1342 = .ok (.iconst 0, 1) := by decide +kernel
theorem dL_law__1343 : decode cL_law_ 1343 = .ok (.ireturn, 1) := by decide +kernel
theorem dL_law__1344 : decode cL_law_ 1344 = .ok (.goto 1148, 3) := by decide +kernel
theorem dL_law__1347 : decode cL_law_ 1347 = .ok (.aload_n 1, 1) := by decide +kernel
theorem dL_law__1348 : decode cL_law_ 1348 = .ok (.aload_n 0, 1) := by decide +kernel
theorem dL_law__1349 : decode cL_law_ 1349 = .ok (.iload 4, 2) := by decide +kernel
theorem dL_law__1351 : decode cL_law_ 1351 = .ok (.iconst 1, 1) := by decide +kernel
theorem dL_law__1352 : decode cL_law_ 1352 = .ok (.iadd, 1) := by decide +kernel
theorem dL_law__1353 : decode cL_law_ 1353 = .ok (.iaload, 1) := by decide +kernel
theorem dL_law__1354 : decode cL_law_ 1354 = .ok (.aload_n 0, 1) := by decide +kernel
theorem dL_law__1355 : decode cL_law_ 1355 = .ok (.iload 4, 2) := by decide +kernel
theorem dL_law__1357 : decode cL_law_ 1357 = .ok (.iconst 2, 1) := by decide +kernel
theorem dL_law__1358 : decode cL_law_ 1358 = .ok (.iadd, 1) := by decide +kernel
theorem dL_law__1359 : decode cL_law_ 1359 = .ok (.iaload, 1) := by decide +kernel
theorem dL_law__1360 : decode cL_law_ 1360 = .ok (.aload_n 3, 1) := by decide +kernel
theorem dL_law__1361 : decode cL_law_ 1361 = .ok (.invokestatic 196, 3) := by decide +kernel
theorem dL_law__1364 : decode cL_law_ 1364 = .ok (.istore 5, 2) := by decide +kernel
theorem dL_law__1366 : decode cL_law_ 1366 = .ok (.aload_n 2, 1) := by decide +kernel
theorem dL_law__1367 : decode cL_law_ 1367 = .ok (.aload_n 0, 1) := by decide +kernel
theorem dL_law__1368 : decode cL_law_ 1368 = .ok (.iload 4, 2) := by decide +kernel
theorem dL_law__1370 : decode cL_law_ 1370 = .ok (.iconst 1, 1) := by decide +kernel
theorem dL_law__1371 : decode cL_law_ 1371 = .ok (.iadd, 1) := by decide +kernel
theorem dL_law__1372 : decode cL_law_ 1372 = .ok (.iaload, 1) := by decide +kernel
theorem dL_law__1373 : decode cL_law_ 1373 = .ok (.aload_n 0, 1) := by decide +kernel
theorem dL_law__1374 : decode cL_law_ 1374 = .ok (.iload 4, 2) := by decide +kernel
theorem dL_law__1376 : decode cL_law_ 1376 = .ok (.iconst 2, 1) := by decide +kernel
theorem dL_law__1377 : decode cL_law_ 1377 = .ok (.iadd, 1) := by decide +kernel
theorem dL_law__1378 : decode cL_law_ 1378 = .ok (.iaload, 1) := by decide +kernel
theorem dL_law__1379 : decode cL_law_ 1379 = .ok (.invokevirtual 198, 3) := by decide +kernel
theorem dL_law__1382 : decode cL_law_ 1382 = .ok (.istore 6, 2) := by decide +kernel
theorem dL_law__1384 : decode cL_law_ 1384 = .ok (.aload_n 2, 1) := by decide +kernel
theorem dL_law__1385 : decode cL_law_ 1385 = .ok (.invokevirtual 136, 3) := by decide +kernel
theorem dL_law__1388 : decode cL_law_ 1388 = .ok (.iload 5, 2) := by decide +kernel
theorem dL_law__1390 : decode cL_law_ 1390 = .ok (.if_icmp .eq 5, 3) := by decide +kernel
theorem dL_law__1393 : decode cL_law_ 1393 = .ok (.iconst 0, 1) := by decide +kernel
theorem dL_law__1394 : decode cL_law_ 1394 = .ok (.ireturn, 1) := by decide +kernel
theorem dL_law__1395 : decode cL_law_ 1395 = .ok (.iload 5, 2) := by decide +kernel
theorem dL_law__1397 : decode cL_law_ 1397 = .ok (.ifCond .ne 15, 3) := by decide +kernel
theorem dL_law__1400 : decode cL_law_ 1400 = .ok (.aload_n 3, 1) := by decide +kernel
theorem dL_law__1401 : decode cL_law_ 1401 = .ok (.iconst 0, 1) := by decide +kernel
theorem dL_law__1402 : decode cL_law_ 1402 = .ok (.laload, 1) := by decide +kernel
theorem dL_law__1403 : decode cL_law_ 1403 = .ok (.iload 6, 2) := by decide +kernel
theorem dL_law__1405 : decode cL_law_ 1405 = .ok (.i2l, 1) := by decide +kernel
theorem dL_law__1406 : decode cL_law_ 1406 = .ok (.lcmp, 1) := by decide +kernel
theorem dL_law__1407 : decode cL_law_ 1407 = .ok (.ifCond .eq 5, 3) := by decide +kernel
theorem dL_law__1410 : decode cL_law_ 1410 = .ok (.iconst 0, 1) := by decide +kernel
theorem dL_law__1411 : decode cL_law_ 1411 = .ok (.ireturn, 1) := by decide +kernel
theorem dL_law__1412 : decode cL_law_ 1412 = .ok (.goto 1080, 3) := by decide +kernel
theorem dL_law__1415 : decode cL_law_ 1415 = .ok (.aload_n 1, 1) := by decide +kernel
theorem dL_law__1416 : decode cL_law_ 1416 = .ok (.aload_n 0, 1) := by decide +kernel
theorem dL_law__1417 : decode cL_law_ 1417 = .ok (.iload 4, 2) := by decide +kernel
theorem dL_law__1419 : decode cL_law_ 1419 = .ok (.iconst 1, 1) := by decide +kernel
theorem dL_law__1420 : decode cL_law_ 1420 = .ok (.iadd, 1) := by decide +kernel
theorem dL_law__1421 : decode cL_law_ 1421 = .ok (.iaload, 1) := by decide +kernel
theorem dL_law__1422 : decode cL_law_ 1422 = .ok (.aload_n 3, 1) := by decide +kernel
theorem dL_law__1423 : decode cL_law_ 1423 = .ok (.invokestatic 199, 3) := by decide +kernel
theorem dL_law__1426 : decode cL_law_ 1426 = .ok (.istore 5, 2) := by decide +kernel
theorem dL_law__1428 : decode cL_law_ 1428 = .ok (.aload_n 2, 1) := by decide +kernel
theorem dL_law__1429 : decode cL_law_ 1429 = .ok (.aload_n 0, 1) := by decide +kernel
theorem dL_law__1430 : decode cL_law_ 1430 = .ok (.iload 4, 2) := by decide +kernel
theorem dL_law__1432 : decode cL_law_ 1432 = .ok (.iconst 1, 1) := by decide +kernel
theorem dL_law__1433 : decode cL_law_ 1433 = .ok (.iadd, 1) := by decide +kernel
theorem dL_law__1434 : decode cL_law_ 1434 = .ok (.iaload, 1) := by decide +kernel
theorem dL_law__1435 : decode cL_law_ 1435 = .ok (.invokevirtual 201, 3) := by decide +kernel
theorem dL_law__1438 : decode cL_law_ 1438 = .ok (.istore 6, 2) := by decide +kernel
theorem dL_law__1440 : decode cL_law_ 1440 = .ok (.aload_n 2, 1) := by decide +kernel
theorem dL_law__1441 : decode cL_law_ 1441 = .ok (.invokevirtual 136, 3) := by decide +kernel
theorem dL_law__1444 : decode cL_law_ 1444 = .ok (.iload 5, 2) := by decide +kernel
theorem dL_law__1446 : decode cL_law_ 1446 = .ok (.if_icmp .eq 5, 3) := by decide +kernel
theorem dL_law__1449 : decode cL_law_ 1449 = .ok (.iconst 0, 1) := by decide +kernel
theorem dL_law__1450 : decode cL_law_ 1450 = .ok (.ireturn, 1) := by decide +kernel
theorem dL_law__1451 : decode cL_law_ 1451 = .ok (.iload 5, 2) := by decide +kernel
theorem dL_law__1453 : decode cL_law_ 1453 = .ok (.ifCond .ne 15, 3) := by decide +kernel
theorem dL_law__1456 : decode cL_law_ 1456 = .ok (.aload_n 3, 1) := by decide +kernel
theorem dL_law__1457 : decode cL_law_ 1457 = .ok (.iconst 0, 1) := by decide +kernel
theorem dL_law__1458 : decode cL_law_ 1458 = .ok (.laload, 1) := by decide +kernel
theorem dL_law__1459 : decode cL_law_ 1459 = .ok (.iload 6, 2) := by decide +kernel
theorem dL_law__1461 : decode cL_law_ 1461 = .ok (.i2l, 1) := by decide +kernel
theorem dL_law__1462 : decode cL_law_ 1462 = .ok (.lcmp, 1) := by decide +kernel
theorem dL_law__1463 : decode cL_law_ 1463 = .ok (.ifCond .eq 5, 3) := by decide +kernel
theorem dL_law__1466 : decode cL_law_ 1466 = .ok (.iconst 0, 1) := by decide +kernel
theorem dL_law__1467 : decode cL_law_ 1467 = .ok (.ireturn, 1) := by decide +kernel
theorem dL_law__1468 : decode cL_law_ 1468 = .ok (.goto 1024, 3) := by decide +kernel
theorem dL_law__1471 : decode cL_law_ 1471 = .ok (.aload_n 1, 1) := by decide +kernel
theorem dL_law__1472 : decode cL_law_ 1472 = .ok (.invokevirtual 202, 3) := by decide +kernel
theorem dL_law__1475 : decode cL_law_ 1475 = .ok (.aload_n 2, 1) := by decide +kernel
theorem dL_law__1476 : decode cL_law_ 1476 = .ok (.invokevirtual 205, 3) := by decide +kernel
theorem dL_law__1479 : decode cL_law_ 1479 = .ok (.if_icmp .eq 1013, 3) := by decide +kernel
theorem dL_law__1482 : decode cL_law_ 1482 = .ok (.iconst 0, 1) := by decide +kernel
theorem dL_law__1483 : decode cL_law_ 1483 = .ok (.ireturn, 1) := by decide +kernel
theorem dL_law__1484 : decode cL_law_ 1484 = .ok (.aload_n 1, 1) := by decide +kernel
theorem dL_law__1485 : decode cL_law_ 1485 = .ok (.aload_n 0, 1) := by decide +kernel
theorem dL_law__1486 : decode cL_law_ 1486 = .ok (.iload 4, 2) := by decide +kernel
theorem dL_law__1488 : decode cL_law_ 1488 = .ok (.iconst 1, 1) := by decide +kernel
theorem dL_law__1489 : decode cL_law_ 1489 = .ok (.iadd, 1) := by decide +kernel
theorem dL_law__1490 : decode cL_law_ 1490 = .ok (.iaload, 1) := by decide +kernel
theorem dL_law__1491 : decode cL_law_ 1491 = .ok (.ifCond .eq 7, 3) := by decide +kernel
theorem dL_law__1494 : decode cL_law_ 1494 = .ok (.iconst 1, 1) := by decide +kernel
theorem dL_law__1495 : decode cL_law_ 1495 = .ok (.goto 4, 3) := by decide +kernel
theorem dL_law__1498 : decode cL_law_ 1498 = .ok (.iconst 0, 1) := by decide +kernel
theorem dL_law__1499 : decode cL_law_ 1499 = .ok (.invokevirtual 206, 3) := by decide +kernel
theorem dL_law__1502 : decode cL_law_ 1502 = .ok (.aload_n 2, 1) := by decide +kernel
theorem dL_law__1503 : decode cL_law_ 1503 = .ok (.aload_n 0, 1) := by decide +kernel
theorem dL_law__1504 : decode cL_law_ 1504 = .ok (.iload 4, 2) := by decide +kernel
theorem dL_law__1506 : decode cL_law_ 1506 = .ok (.iconst 1, 1) := by decide +kernel
theorem dL_law__1507 : decode cL_law_ 1507 = .ok (.iadd, 1) := by decide +kernel
theorem dL_law__1508 : decode cL_law_ 1508 = .ok (.iaload, 1) := by decide +kernel
theorem dL_law__1509 : decode cL_law_ 1509 = .ok (.ifCond .eq 7, 3) := by decide +kernel
theorem dL_law__1512 : decode cL_law_ 1512 = .ok (.iconst 1, 1) := by decide +kernel
theorem dL_law__1513 : decode cL_law_ 1513 = .ok (.goto 4, 3) := by decide +kernel
theorem dL_law__1516 : decode cL_law_ 1516 = .ok (.iconst 0, 1) := by decide +kernel
theorem dL_law__1517 : decode cL_law_ 1517 = .ok (.invokevirtual 210, 3) := by decide +kernel
theorem dL_law__1520 : decode cL_law_ 1520 = .ok (.if_icmp .eq 972, 3) := by decide +kernel
theorem dL_law__1523 : decode cL_law_ 1523 = .ok (.iconst 0, 1) := by decide +kernel
theorem dL_law__1524 : decode cL_law_ 1524 = .ok (.ireturn, 1) := by decide +kernel
theorem dL_law__1525 : decode cL_law_ 1525 = .ok (.aload_n 1, 1) := by decide +kernel
theorem dL_law__1526 : decode cL_law_ 1526 = .ok (.invokevirtual 211, 3) := by decide +kernel
theorem dL_law__1529 : decode cL_law_ 1529 = .ok (.aload_n 2, 1) := by decide +kernel
theorem dL_law__1530 : decode cL_law_ 1530 = .ok (.invokevirtual 214, 3) := by decide +kernel
theorem dL_law__1533 : decode cL_law_ 1533 = .ok (.if_icmp .eq 959, 3) := by decide +kernel
theorem dL_law__1536 : decode cL_law_ 1536 = .ok (.iconst 0, 1) := by decide +kernel
theorem dL_law__1537 : decode cL_law_ 1537 = .ok (.ireturn, 1) := by decide +kernel
theorem dL_law__1538 : decode cL_law_ 1538 = .ok (.aload_n 1, 1) := by decide +kernel
theorem dL_law__1539 : decode cL_law_ 1539 = .ok (.invokevirtual 215, 3) := by decide +kernel
theorem dL_law__1542 : decode cL_law_ 1542 = .ok (.aload_n 2, 1) := by decide +kernel
theorem dL_law__1543 : decode cL_law_ 1543 = .ok (.invokevirtual 218, 3) := by decide +kernel
theorem dL_law__1546 : decode cL_law_ 1546 = .ok (.if_icmp .eq 946, 3) := by decide +kernel
theorem dL_law__1549 : decode cL_law_ 1549 = .ok (.iconst 0, 1) := by decide +kernel
theorem dL_law__1550 : decode cL_law_ 1550 = .ok (.ireturn, 1) := by decide +kernel
theorem dL_law__1551 : decode cL_law_ 1551 = .ok (.aload_n 1, 1) := by decide +kernel
theorem dL_law__1552 : decode cL_law_ 1552 = .ok (.aload_n 0, 1) := by decide +kernel
theorem dL_law__1553 : decode cL_law_ 1553 = .ok (.iload 4, 2) := by decide +kernel
theorem dL_law__1555 : decode cL_law_ 1555 = .ok (.iconst 1, 1) := by decide +kernel
theorem dL_law__1556 : decode cL_law_ 1556 = .ok (.iadd, 1) := by decide +kernel
theorem dL_law__1557 : decode cL_law_ 1557 = .ok (.iaload, 1) := by decide +kernel
theorem dL_law__1558 : decode cL_law_ 1558 = .ok (.aload_n 0, 1) := by decide +kernel
theorem dL_law__1559 : decode cL_law_ 1559 = .ok (.iload 4, 2) := by decide +kernel
theorem dL_law__1561 : decode cL_law_ 1561 = .ok (.iconst 2, 1) := by decide +kernel
theorem dL_law__1562 : decode cL_law_ 1562 = .ok (.iadd, 1) := by decide +kernel
theorem dL_law__1563 : decode cL_law_ 1563 = .ok (.iaload, 1) := by decide +kernel
theorem dL_law__1564 : decode cL_law_ 1564 = .ok (.ifCond .eq 7, 3) := by decide +kernel
theorem dL_law__1567 : decode cL_law_ 1567 = .ok (.iconst 1, 1) := by decide +kernel
theorem dL_law__1568 : decode cL_law_ 1568 = .ok (.goto 4, 3) := by decide +kernel
theorem dL_law__1571 : decode cL_law_ 1571 = .ok (.iconst 0, 1) := by decide +kernel
theorem dL_law__1572 : decode cL_law_ 1572 = .ok (.aload_n 3, 1) := by decide +kernel
theorem dL_law__1573 : decode cL_law_ 1573 = .ok (.invokestatic 219, 3) := by decide +kernel
theorem dL_law__1576 : decode cL_law_ 1576 = .ok (.istore 5, 2) := by decide +kernel
theorem dL_law__1578 : decode cL_law_ 1578 = .ok (.aload_n 2, 1) := by decide +kernel
theorem dL_law__1579 : decode cL_law_ 1579 = .ok (.aload_n 0, 1) := by decide +kernel
theorem dL_law__1580 : decode cL_law_ 1580 = .ok (.iload 4, 2) := by decide +kernel
theorem dL_law__1582 : decode cL_law_ 1582 = .ok (.iconst 1, 1) := by decide +kernel
theorem dL_law__1583 : decode cL_law_ 1583 = .ok (.iadd, 1) := by decide +kernel
theorem dL_law__1584 : decode cL_law_ 1584 = .ok (.iaload, 1) := by decide +kernel
theorem dL_law__1585 : decode cL_law_ 1585 = .ok (.aload_n 0, 1) := by decide +kernel
theorem dL_law__1586 : decode cL_law_ 1586 = .ok (.iload 4, 2) := by decide +kernel
theorem dL_law__1588 : decode cL_law_ 1588 = .ok (.iconst 2, 1) := by decide +kernel
theorem dL_law__1589 : decode cL_law_ 1589 = .ok (.iadd, 1) := by decide +kernel
theorem dL_law__1590 : decode cL_law_ 1590 = .ok (.iaload, 1) := by decide +kernel
theorem dL_law__1591 : decode cL_law_ 1591 = .ok (.ifCond .eq 7, 3) := by decide +kernel
theorem dL_law__1594 : decode cL_law_ 1594 = .ok (.iconst 1, 1) := by decide +kernel
theorem dL_law__1595 : decode cL_law_ 1595 = .ok (.goto 4, 3) := by decide +kernel
theorem dL_law__1598 : decode cL_law_ 1598 = .ok (.iconst 0, 1) := by decide +kernel
theorem dL_law__1599 : decode cL_law_ 1599 = .ok (.invokevirtual 222, 3) := by decide +kernel
theorem dL_law__1602 : decode cL_law_ 1602 = .ok (.istore 6, 2) := by decide +kernel
theorem dL_law__1604 : decode cL_law_ 1604 = .ok (.aload_n 2, 1) := by decide +kernel
theorem dL_law__1605 : decode cL_law_ 1605 = .ok (.invokevirtual 136, 3) := by decide +kernel
theorem dL_law__1608 : decode cL_law_ 1608 = .ok (.iload 5, 2) := by decide +kernel
theorem dL_law__1610 : decode cL_law_ 1610 = .ok (.if_icmp .eq 5, 3) := by decide +kernel
theorem dL_law__1613 : decode cL_law_ 1613 = .ok (.iconst 0, 1) := by decide +kernel
theorem dL_law__1614 : decode cL_law_ 1614 = .ok (.ireturn, 1) := by decide +kernel
theorem dL_law__1615 : decode cL_law_ 1615 = .ok (.iload 5, 2) := by decide +kernel
theorem dL_law__1617 : decode cL_law_ 1617 = .ok (.ifCond .ne 15, 3) := by decide +kernel
theorem dL_law__1620 : decode cL_law_ 1620 = .ok (.aload_n 3, 1) := by decide +kernel
theorem dL_law__1621 : decode cL_law_ 1621 = .ok (.iconst 0, 1) := by decide +kernel
theorem dL_law__1622 : decode cL_law_ 1622 = .ok (.laload, 1) := by decide +kernel
theorem dL_law__1623 : decode cL_law_ 1623 = .ok (.iload 6, 2) := by decide +kernel
theorem dL_law__1625 : decode cL_law_ 1625 = .ok (.i2l, 1) := by decide +kernel
theorem dL_law__1626 : decode cL_law_ 1626 = .ok (.lcmp, 1) := by decide +kernel
theorem dL_law__1627 : decode cL_law_ 1627 = .ok (.ifCond .eq 5, 3) := by decide +kernel
theorem dL_law__1630 : decode cL_law_ 1630 = .ok (.iconst 0, 1) := by decide +kernel
theorem dL_law__1631 : decode cL_law_ 1631 = .ok (.ireturn, 1) := by decide +kernel
theorem dL_law__1632 : decode cL_law_ 1632 = .ok (.goto 860, 3) := by decide +kernel
theorem dL_law__1635 : decode cL_law_ 1635 = .ok (.aload_n 1, 1) := by decide +kernel
theorem dL_law__1636 : decode cL_law_ 1636 = .ok (.aload_n 0, 1) := by decide +kernel
theorem dL_law__1637 : decode cL_law_ 1637 = .ok (.iload 4, 2) := by decide +kernel
theorem dL_law__1639 : decode cL_law_ 1639 = .ok (.iconst 1, 1) := by decide +kernel
theorem dL_law__1640 : decode cL_law_ 1640 = .ok (.iadd, 1) := by decide +kernel
theorem dL_law__1641 : decode cL_law_ 1641 = .ok (.iaload, 1) := by decide +kernel
theorem dL_law__1642 : decode cL_law_ 1642 = .ok (.aload_n 3, 1) := by decide +kernel
theorem dL_law__1643 : decode cL_law_ 1643 = .ok (.invokestatic 223, 3) := by decide +kernel
theorem dL_law__1646 : decode cL_law_ 1646 = .ok (.istore 5, 2) := by decide +kernel
theorem dL_law__1648 : decode cL_law_ 1648 = .ok (.aload_n 2, 1) := by decide +kernel
theorem dL_law__1649 : decode cL_law_ 1649 = .ok (.aload_n 0, 1) := by decide +kernel
theorem dL_law__1650 : decode cL_law_ 1650 = .ok (.iload 4, 2) := by decide +kernel
theorem dL_law__1652 : decode cL_law_ 1652 = .ok (.iconst 1, 1) := by decide +kernel
theorem dL_law__1653 : decode cL_law_ 1653 = .ok (.iadd, 1) := by decide +kernel
theorem dL_law__1654 : decode cL_law_ 1654 = .ok (.iaload, 1) := by decide +kernel
theorem dL_law__1655 : decode cL_law_ 1655 = .ok (.invokevirtual 225, 3) := by decide +kernel
theorem dL_law__1658 : decode cL_law_ 1658 = .ok (.istore 6, 2) := by decide +kernel
theorem dL_law__1660 : decode cL_law_ 1660 = .ok (.aload_n 2, 1) := by decide +kernel
theorem dL_law__1661 : decode cL_law_ 1661 = .ok (.invokevirtual 136, 3) := by decide +kernel
theorem dL_law__1664 : decode cL_law_ 1664 = .ok (.iload 5, 2) := by decide +kernel
theorem dL_law__1666 : decode cL_law_ 1666 = .ok (.if_icmp .eq 5, 3) := by decide +kernel
theorem dL_law__1669 : decode cL_law_ 1669 = .ok (.iconst 0, 1) := by decide +kernel
theorem dL_law__1670 : decode cL_law_ 1670 = .ok (.ireturn, 1) := by decide +kernel
theorem dL_law__1671 : decode cL_law_ 1671 = .ok (.iload 5, 2) := by decide +kernel
theorem dL_law__1673 : decode cL_law_ 1673 = .ok (.ifCond .ne 15, 3) := by decide +kernel
theorem dL_law__1676 : decode cL_law_ 1676 = .ok (.aload_n 3, 1) := by decide +kernel
theorem dL_law__1677 : decode cL_law_ 1677 = .ok (.iconst 0, 1) := by decide +kernel
theorem dL_law__1678 : decode cL_law_ 1678 = .ok (.laload, 1) := by decide +kernel
theorem dL_law__1679 : decode cL_law_ 1679 = .ok (.iload 6, 2) := by decide +kernel
theorem dL_law__1681 : decode cL_law_ 1681 = .ok (.i2l, 1) := by decide +kernel
theorem dL_law__1682 : decode cL_law_ 1682 = .ok (.lcmp, 1) := by decide +kernel
theorem dL_law__1683 : decode cL_law_ 1683 = .ok (.ifCond .eq 5, 3) := by decide +kernel
theorem dL_law__1686 : decode cL_law_ 1686 = .ok (.iconst 0, 1) := by decide +kernel
theorem dL_law__1687 : decode cL_law_ 1687 = .ok (.ireturn, 1) := by decide +kernel
theorem dL_law__1688 : decode cL_law_ 1688 = .ok (.goto 804, 3) := by decide +kernel
theorem dL_law__1691 : decode cL_law_ 1691 = .ok (.aload_n 1, 1) := by decide +kernel
theorem dL_law__1692 : decode cL_law_ 1692 = .ok (.aload_n 0, 1) := by decide +kernel
theorem dL_law__1693 : decode cL_law_ 1693 = .ok (.iload 4, 2) := by decide +kernel
theorem dL_law__1695 : decode cL_law_ 1695 = .ok (.iconst 1, 1) := by decide +kernel
theorem dL_law__1696 : decode cL_law_ 1696 = .ok (.iadd, 1) := by decide +kernel
theorem dL_law__1697 : decode cL_law_ 1697 = .ok (.iaload, 1) := by decide +kernel
theorem dL_law__1698 : decode cL_law_ 1698 = .ok (.aload_n 0, 1) := by decide +kernel
theorem dL_law__1699 : decode cL_law_ 1699 = .ok (.iload 4, 2) := by decide +kernel
theorem dL_law__1701 : decode cL_law_ 1701 = .ok (.iconst 2, 1) := by decide +kernel
theorem dL_law__1702 : decode cL_law_ 1702 = .ok (.iadd, 1) := by decide +kernel
theorem dL_law__1703 : decode cL_law_ 1703 = .ok (.iaload, 1) := by decide +kernel
theorem dL_law__1704 : decode cL_law_ 1704 = .ok (.aload_n 3, 1) := by decide +kernel
theorem dL_law__1705 : decode cL_law_ 1705 = .ok (.invokestatic 226, 3) := by decide +kernel
theorem dL_law__1708 : decode cL_law_ 1708 = .ok (.istore 5, 2) := by decide +kernel
theorem dL_law__1710 : decode cL_law_ 1710 = .ok (.aload_n 2, 1) := by decide +kernel
theorem dL_law__1711 : decode cL_law_ 1711 = .ok (.aload_n 0, 1) := by decide +kernel
theorem dL_law__1712 : decode cL_law_ 1712 = .ok (.iload 4, 2) := by decide +kernel
theorem dL_law__1714 : decode cL_law_ 1714 = .ok (.iconst 1, 1) := by decide +kernel
theorem dL_law__1715 : decode cL_law_ 1715 = .ok (.iadd, 1) := by decide +kernel
theorem dL_law__1716 : decode cL_law_ 1716 = .ok (.iaload, 1) := by decide +kernel
theorem dL_law__1717 : decode cL_law_ 1717 = .ok (.aload_n 0, 1) := by decide +kernel
theorem dL_law__1718 : decode cL_law_ 1718 = .ok (.iload 4, 2) := by decide +kernel
theorem dL_law__1720 : decode cL_law_ 1720 = .ok (.iconst 2, 1) := by decide +kernel
theorem dL_law__1721 : decode cL_law_ 1721 = .ok (.iadd, 1) := by decide +kernel
theorem dL_law__1722 : decode cL_law_ 1722 = .ok (.iaload, 1) := by decide +kernel
theorem dL_law__1723 : decode cL_law_ 1723 = .ok (.invokevirtual 228, 3) := by decide +kernel
theorem dL_law__1726 : decode cL_law_ 1726 = .ok (.istore 6, 2) := by decide +kernel
theorem dL_law__1728 : decode cL_law_ 1728 = .ok (.aload_n 2, 1) := by decide +kernel
theorem dL_law__1729 : decode cL_law_ 1729 = .ok (.invokevirtual 136, 3) := by decide +kernel
theorem dL_law__1732 : decode cL_law_ 1732 = .ok (.iload 5, 2) := by decide +kernel
theorem dL_law__1734 : decode cL_law_ 1734 = .ok (.if_icmp .eq 5, 3) := by decide +kernel
theorem dL_law__1737 : decode cL_law_ 1737 = .ok (.iconst 0, 1) := by decide +kernel
theorem dL_law__1738 : decode cL_law_ 1738 = .ok (.ireturn, 1) := by decide +kernel
theorem dL_law__1739 : decode cL_law_ 1739 = .ok (.iload 5, 2) := by decide +kernel
theorem dL_law__1741 : decode cL_law_ 1741 = .ok (.ifCond .ne 15, 3) := by decide +kernel
theorem dL_law__1744 : decode cL_law_ 1744 = .ok (.aload_n 3, 1) := by decide +kernel
theorem dL_law__1745 : decode cL_law_ 1745 = .ok (.iconst 0, 1) := by decide +kernel
theorem dL_law__1746 : decode cL_law_ 1746 = .ok (.laload, 1) := by decide +kernel
theorem dL_law__1747 : decode cL_law_ 1747 = .ok (.iload 6, 2) := by decide +kernel
theorem dL_law__1749 : decode cL_law_ 1749 = .ok (.i2l, 1) := by decide +kernel
theorem dL_law__1750 : decode cL_law_ 1750 = .ok (.lcmp, 1) := by decide +kernel
theorem dL_law__1751 : decode cL_law_ 1751 = .ok (.ifCond .eq 5, 3) := by decide +kernel
theorem dL_law__1754 : decode cL_law_ 1754 = .ok (.iconst 0, 1) := by decide +kernel
theorem dL_law__1755 : decode cL_law_ 1755 = .ok (.ireturn, 1) := by decide +kernel
theorem dL_law__1756 : decode cL_law_ 1756 = .ok (.goto 736, 3) := by decide +kernel
theorem dL_law__1759 : decode cL_law_ 1759 = .ok (.aload_n 1, 1) := by decide +kernel
theorem dL_law__1760 : decode cL_law_ 1760 = .ok (.aload_n 0, 1) := by decide +kernel
theorem dL_law__1761 : decode cL_law_ 1761 = .ok (.iload 4, 2) := by decide +kernel
theorem dL_law__1763 : decode cL_law_ 1763 = .ok (.iconst 1, 1) := by decide +kernel
theorem dL_law__1764 : decode cL_law_ 1764 = .ok (.iadd, 1) := by decide +kernel
theorem dL_law__1765 : decode cL_law_ 1765 = .ok (.iaload, 1) := by decide +kernel
theorem dL_law__1766 : decode cL_law_ 1766 = .ok (.aload_n 3, 1) := by decide +kernel
theorem dL_law__1767 : decode cL_law_ 1767 = .ok (.invokestatic 229, 3) := by decide +kernel
theorem dL_law__1770 : decode cL_law_ 1770 = .ok (.istore 5, 2) := by decide +kernel
theorem dL_law__1772 : decode cL_law_ 1772 = .ok (.aload_n 2, 1) := by decide +kernel
theorem dL_law__1773 : decode cL_law_ 1773 = .ok (.aload_n 0, 1) := by decide +kernel
theorem dL_law__1774 : decode cL_law_ 1774 = .ok (.iload 4, 2) := by decide +kernel
theorem dL_law__1776 : decode cL_law_ 1776 = .ok (.iconst 1, 1) := by decide +kernel
theorem dL_law__1777 : decode cL_law_ 1777 = .ok (.iadd, 1) := by decide +kernel
theorem dL_law__1778 : decode cL_law_ 1778 = .ok (.iaload, 1) := by decide +kernel
theorem dL_law__1779 : decode cL_law_ 1779 = .ok (.invokevirtual 231, 3) := by decide +kernel
theorem dL_law__1782 : decode cL_law_ 1782 = .ok (.istore 6, 2) := by decide +kernel
theorem dL_law__1784 : decode cL_law_ 1784 = .ok (.aload_n 2, 1) := by decide +kernel
theorem dL_law__1785 : decode cL_law_ 1785 = .ok (.invokevirtual 136, 3) := by decide +kernel
theorem dL_law__1788 : decode cL_law_ 1788 = .ok (.iload 5, 2) := by decide +kernel
theorem dL_law__1790 : decode cL_law_ 1790 = .ok (.if_icmp .eq 5, 3) := by decide +kernel
theorem dL_law__1793 : decode cL_law_ 1793 = .ok (.iconst 0, 1) := by decide +kernel
theorem dL_law__1794 : decode cL_law_ 1794 = .ok (.ireturn, 1) := by decide +kernel
theorem dL_law__1795 : decode cL_law_ 1795 = .ok (.iload 5, 2) := by decide +kernel
theorem dL_law__1797 : decode cL_law_ 1797 = .ok (.ifCond .ne 15, 3) := by decide +kernel
theorem dL_law__1800 : decode cL_law_ 1800 = .ok (.aload_n 3, 1) := by decide +kernel
theorem dL_law__1801 : decode cL_law_ 1801 = .ok (.iconst 0, 1) := by decide +kernel
theorem dL_law__1802 : decode cL_law_ 1802 = .ok (.laload, 1) := by decide +kernel
theorem dL_law__1803 : decode cL_law_ 1803 = .ok (.iload 6, 2) := by decide +kernel
theorem dL_law__1805 : decode cL_law_ 1805 = .ok (.i2l, 1) := by decide +kernel
theorem dL_law__1806 : decode cL_law_ 1806 = .ok (.lcmp, 1) := by decide +kernel
theorem dL_law__1807 : decode cL_law_ 1807 = .ok (.ifCond .eq 5, 3) := by decide +kernel
theorem dL_law__1810 : decode cL_law_ 1810 = .ok (.iconst 0, 1) := by decide +kernel
theorem dL_law__1811 : decode cL_law_ 1811 = .ok (.ireturn, 1) := by decide +kernel
theorem dL_law__1812 : decode cL_law_ 1812 = .ok (.goto 680, 3) := by decide +kernel
theorem dL_law__1815 : decode cL_law_ 1815 = .ok (.aload_n 1, 1) := by decide +kernel
theorem dL_law__1816 : decode cL_law_ 1816 = .ok (.invokevirtual 232, 3) := by decide +kernel
theorem dL_law__1819 : decode cL_law_ 1819 = .ok (.aload_n 2, 1) := by decide +kernel
theorem dL_law__1820 : decode cL_law_ 1820 = .ok (.invokevirtual 235, 3) := by decide +kernel
theorem dL_law__1823 : decode cL_law_ 1823 = .ok (.if_icmp .eq 669, 3) := by decide +kernel
theorem dL_law__1826 : decode cL_law_ 1826 = .ok (.iconst 0, 1) := by decide +kernel
theorem dL_law__1827 : decode cL_law_ 1827 = .ok (.ireturn, 1) := by decide +kernel
theorem dL_law__1828 : decode cL_law_ 1828 = .ok (.aload_n 1, 1) := by decide +kernel
theorem dL_law__1829 : decode cL_law_ 1829 = .ok (.invokevirtual 236, 3) := by decide +kernel
theorem dL_law__1832 : decode cL_law_ 1832 = .ok (.aload_n 2, 1) := by decide +kernel
theorem dL_law__1833 : decode cL_law_ 1833 = .ok (.invokevirtual 239, 3) := by decide +kernel
theorem dL_law__1836 : decode cL_law_ 1836 = .ok (.if_icmp .eq 656, 3) := by decide +kernel
theorem dL_law__1839 : decode cL_law_ 1839 = .ok (.iconst 0, 1) := by decide +kernel
theorem dL_law__1840 : decode cL_law_ 1840 = .ok (.ireturn, 1) := by decide +kernel
theorem dL_law__1841 : decode cL_law_ 1841 = .ok (.aload_n 1, 1) := by decide +kernel
theorem dL_law__1842 : decode cL_law_ 1842 = .ok (.invokevirtual 240, 3) := by decide +kernel
theorem dL_law__1845 : decode cL_law_ 1845 = .ok (.aload_n 2, 1) := by decide +kernel
theorem dL_law__1846 : decode cL_law_ 1846 = .ok (.invokevirtual 243, 3) := by decide +kernel
theorem dL_law__1849 : decode cL_law_ 1849 = .ok (.if_icmp .eq 643, 3) := by decide +kernel
theorem dL_law__1852 : decode cL_law_ 1852 = .ok (.iconst 0, 1) := by decide +kernel
theorem dL_law__1853 : decode cL_law_ 1853 = .ok (.ireturn, 1) := by decide +kernel
theorem dL_law__1854 : decode cL_law_ 1854 = .ok (.aload_n 1, 1) := by decide +kernel
theorem dL_law__1855 : decode cL_law_ 1855 = .ok (.invokevirtual 244, 3) := by decide +kernel
theorem dL_law__1858 : decode cL_law_ 1858 = .ok (.aload_n 2, 1) := by decide +kernel
theorem dL_law__1859 : decode cL_law_ 1859 = .ok (.invokevirtual 247, 3) := by decide +kernel
theorem dL_law__1862 : decode cL_law_ 1862 = .ok (.if_icmp .eq 630, 3) := by decide +kernel
theorem dL_law__1865 : decode cL_law_ 1865 = .ok (.iconst 0, 1) := by decide +kernel
theorem dL_law__1866 : decode cL_law_ 1866 = .ok (.ireturn, 1) := by decide +kernel
theorem dL_law__1867 : decode cL_law_ 1867 = .ok (.aload_n 1, 1) := by decide +kernel
theorem dL_law__1868 : decode cL_law_ 1868 = .ok (.aload_n 0, 1) := by decide +kernel
theorem dL_law__1869 : decode cL_law_ 1869 = .ok (.iload 4, 2) := by decide +kernel
theorem dL_law__1871 : decode cL_law_ 1871 = .ok (.iconst 1, 1) := by decide +kernel
theorem dL_law__1872 : decode cL_law_ 1872 = .ok (.iadd, 1) := by decide +kernel
theorem dL_law__1873 : decode cL_law_ 1873 = .ok (.iaload, 1) := by decide +kernel
theorem dL_law__1874 : decode cL_law_ 1874 = .ok (.aload_n 3, 1) := by decide +kernel
theorem dL_law__1875 : decode cL_law_ 1875 = .ok (.invokestatic 248, 3) := by decide +kernel
theorem dL_law__1878 : decode cL_law_ 1878 = .ok (.istore 5, 2) := by decide +kernel
theorem dL_law__1880 : decode cL_law_ 1880 = .ok (.aload_n 2, 1) := by decide +kernel
theorem dL_law__1881 : decode cL_law_ 1881 = .ok (.aload_n 0, 1) := by decide +kernel
theorem dL_law__1882 : decode cL_law_ 1882 = .ok (.iload 4, 2) := by decide +kernel
theorem dL_law__1884 : decode cL_law_ 1884 = .ok (.iconst 1, 1) := by decide +kernel
theorem dL_law__1885 : decode cL_law_ 1885 = .ok (.iadd, 1) := by decide +kernel
theorem dL_law__1886 : decode cL_law_ 1886 = .ok (.iaload, 1) := by decide +kernel
theorem dL_law__1887 : decode cL_law_ 1887 = .ok (.invokevirtual 250, 3) := by decide +kernel
theorem dL_law__1890 : decode cL_law_ 1890 = .ok (.istore 6, 2) := by decide +kernel
theorem dL_law__1892 : decode cL_law_ 1892 = .ok (.aload_n 2, 1) := by decide +kernel
theorem dL_law__1893 : decode cL_law_ 1893 = .ok (.invokevirtual 136, 3) := by decide +kernel
theorem dL_law__1896 : decode cL_law_ 1896 = .ok (.iload 5, 2) := by decide +kernel
theorem dL_law__1898 : decode cL_law_ 1898 = .ok (.if_icmp .eq 5, 3) := by decide +kernel
theorem dL_law__1901 : decode cL_law_ 1901 = .ok (.iconst 0, 1) := by decide +kernel
theorem dL_law__1902 : decode cL_law_ 1902 = .ok (.ireturn, 1) := by decide +kernel
theorem dL_law__1903 : decode cL_law_ 1903 = .ok (.iload 5, 2) := by decide +kernel
theorem dL_law__1905 : decode cL_law_ 1905 = .ok (.ifCond .ne 15, 3) := by decide +kernel
theorem dL_law__1908 : decode cL_law_ 1908 = .ok (.aload_n 3, 1) := by decide +kernel
theorem dL_law__1909 : decode cL_law_ 1909 = .ok (.iconst 0, 1) := by decide +kernel
theorem dL_law__1910 : decode cL_law_ 1910 = .ok (.laload, 1) := by decide +kernel
theorem dL_law__1911 : decode cL_law_ 1911 = .ok (.iload 6, 2) := by decide +kernel
theorem dL_law__1913 : decode cL_law_ 1913 = .ok (.i2l, 1) := by decide +kernel
theorem dL_law__1914 : decode cL_law_ 1914 = .ok (.lcmp, 1) := by decide +kernel
theorem dL_law__1915 : decode cL_law_ 1915 = .ok (.ifCond .eq 5, 3) := by decide +kernel
theorem dL_law__1918 : decode cL_law_ 1918 = .ok (.iconst 0, 1) := by decide +kernel
theorem dL_law__1919 : decode cL_law_ 1919 = .ok (.ireturn, 1) := by decide +kernel
theorem dL_law__1920 : decode cL_law_ 1920 = .ok (.goto 572, 3) := by decide +kernel
theorem dL_law__1923 : decode cL_law_ 1923 = .ok (.aload_n 1, 1) := by decide +kernel
theorem dL_law__1924 : decode cL_law_ 1924 = .ok (.aload_n 0, 1) := by decide +kernel
theorem dL_law__1925 : decode cL_law_ 1925 = .ok (.iload 4, 2) := by decide +kernel
theorem dL_law__1927 : decode cL_law_ 1927 = .ok (.iconst 1, 1) := by decide +kernel
theorem dL_law__1928 : decode cL_law_ 1928 = .ok (.iadd, 1) := by decide +kernel
theorem dL_law__1929 : decode cL_law_ 1929 = .ok (.iaload, 1) := by decide +kernel
theorem dL_law__1930 : decode cL_law_ 1930 = .ok (.aload_n 0, 1) := by decide +kernel
theorem dL_law__1931 : decode cL_law_ 1931 = .ok (.iload 4, 2) := by decide +kernel
theorem dL_law__1933 : decode cL_law_ 1933 = .ok (.iconst 2, 1) := by decide +kernel
theorem dL_law__1934 : decode cL_law_ 1934 = .ok (.iadd, 1) := by decide +kernel
theorem dL_law__1935 : decode cL_law_ 1935 = .ok (.iaload, 1) := by decide +kernel
theorem dL_law__1936 : decode cL_law_ 1936 = .ok (.aload_n 3, 1) := by decide +kernel
theorem dL_law__1937 : decode cL_law_ 1937 = .ok (.invokestatic 251, 3) := by decide +kernel
theorem dL_law__1940 : decode cL_law_ 1940 = .ok (.istore 5, 2) := by decide +kernel
theorem dL_law__1942 : decode cL_law_ 1942 = .ok (.aload_n 2, 1) := by decide +kernel
theorem dL_law__1943 : decode cL_law_ 1943 = .ok (.aload_n 0, 1) := by decide +kernel
theorem dL_law__1944 : decode cL_law_ 1944 = .ok (.iload 4, 2) := by decide +kernel
theorem dL_law__1946 : decode cL_law_ 1946 = .ok (.iconst 1, 1) := by decide +kernel
theorem dL_law__1947 : decode cL_law_ 1947 = .ok (.iadd, 1) := by decide +kernel
theorem dL_law__1948 : decode cL_law_ 1948 = .ok (.iaload, 1) := by decide +kernel
theorem dL_law__1949 : decode cL_law_ 1949 = .ok (.aload_n 0, 1) := by decide +kernel
theorem dL_law__1950 : decode cL_law_ 1950 = .ok (.iload 4, 2) := by decide +kernel
theorem dL_law__1952 : decode cL_law_ 1952 = .ok (.iconst 2, 1) := by decide +kernel
theorem dL_law__1953 : decode cL_law_ 1953 = .ok (.iadd, 1) := by decide +kernel
theorem dL_law__1954 : decode cL_law_ 1954 = .ok (.iaload, 1) := by decide +kernel
theorem dL_law__1955 : decode cL_law_ 1955 = .ok (.invokevirtual 253, 3) := by decide +kernel
theorem dL_law__1958 : decode cL_law_ 1958 = .ok (.istore 6, 2) := by decide +kernel
theorem dL_law__1960 : decode cL_law_ 1960 = .ok (.aload_n 2, 1) := by decide +kernel
theorem dL_law__1961 : decode cL_law_ 1961 = .ok (.invokevirtual 136, 3) := by decide +kernel
theorem dL_law__1964 : decode cL_law_ 1964 = .ok (.iload 5, 2) := by decide +kernel
theorem dL_law__1966 : decode cL_law_ 1966 = .ok (.if_icmp .eq 5, 3) := by decide +kernel
theorem dL_law__1969 : decode cL_law_ 1969 = .ok (.iconst 0, 1) := by decide +kernel
theorem dL_law__1970 : decode cL_law_ 1970 = .ok (.ireturn, 1) := by decide +kernel
theorem dL_law__1971 : decode cL_law_ 1971 = .ok (.iload 5, 2) := by decide +kernel
theorem dL_law__1973 : decode cL_law_ 1973 = .ok (.ifCond .ne 15, 3) := by decide +kernel
theorem dL_law__1976 : decode cL_law_ 1976 = .ok (.aload_n 3, 1) := by decide +kernel
theorem dL_law__1977 : decode cL_law_ 1977 = .ok (.iconst 0, 1) := by decide +kernel
theorem dL_law__1978 : decode cL_law_ 1978 = .ok (.laload, 1) := by decide +kernel
theorem dL_law__1979 : decode cL_law_ 1979 = .ok (.iload 6, 2) := by decide +kernel
theorem dL_law__1981 : decode cL_law_ 1981 = .ok (.i2l, 1) := by decide +kernel
theorem dL_law__1982 : decode cL_law_ 1982 = .ok (.lcmp, 1) := by decide +kernel
theorem dL_law__1983 : decode cL_law_ 1983 = .ok (.ifCond .eq 5, 3) := by decide +kernel
theorem dL_law__1986 : decode cL_law_ 1986 = .ok (.iconst 0, 1) := by decide +kernel
theorem dL_law__1987 : decode cL_law_ 1987 = .ok (.ireturn, 1) := by decide +kernel
theorem dL_law__1988 : decode cL_law_ 1988 = .ok (.goto 504, 3) := by decide +kernel
theorem dL_law__1991 : decode cL_law_ 1991 = .ok (.aload_n 1, 1) := by decide +kernel
theorem dL_law__1992 : decode cL_law_ 1992 = .ok (.aload_n 0, 1) := by decide +kernel
theorem dL_law__1993 : decode cL_law_ 1993 = .ok (.iload 4, 2) := by decide +kernel
theorem dL_law__1995 : decode cL_law_ 1995 = .ok (.iconst 1, 1) := by decide +kernel
theorem dL_law__1996 : decode cL_law_ 1996 = .ok (.iadd, 1) := by decide +kernel
theorem dL_law__1997 : decode cL_law_ 1997 = .ok (.iaload, 1) := by decide +kernel
theorem dL_law__1998 : decode cL_law_ 1998 = .ok (.ifCond .eq 7, 3) := by decide +kernel
theorem dL_law__2001 : decode cL_law_ 2001 = .ok (.iconst 1, 1) := by decide +kernel
theorem dL_law__2002 : decode cL_law_ 2002 = .ok (.goto 4, 3) := by decide +kernel
theorem dL_law__2005 : decode cL_law_ 2005 = .ok (.iconst 0, 1) := by decide +kernel
theorem dL_law__2006 : decode cL_law_ 2006 = .ok (.invokevirtual 254, 3) := by decide +kernel
theorem dL_law__2009 : decode cL_law_ 2009 = .ok (.aload_n 2, 1) := by decide +kernel
theorem dL_law__2010 : decode cL_law_ 2010 = .ok (.aload_n 0, 1) := by decide +kernel
theorem dL_law__2011 : decode cL_law_ 2011 = .ok (.iload 4, 2) := by decide +kernel
theorem dL_law__2013 : decode cL_law_ 2013 = .ok (.iconst 1, 1) := by decide +kernel
theorem dL_law__2014 : decode cL_law_ 2014 = .ok (.iadd, 1) := by decide +kernel
theorem dL_law__2015 : decode cL_law_ 2015 = .ok (.iaload, 1) := by decide +kernel
theorem dL_law__2016 : decode cL_law_ 2016 = .ok (.ifCond .eq 7, 3) := by decide +kernel
theorem dL_law__2019 : decode cL_law_ 2019 = .ok (.iconst 1, 1) := by decide +kernel
theorem dL_law__2020 : decode cL_law_ 2020 = .ok (.goto 4, 3) := by decide +kernel
theorem dL_law__2023 : decode cL_law_ 2023 = .ok (.iconst 0, 1) := by decide +kernel
theorem dL_law__2024 : decode cL_law_ 2024 = .ok (.invokevirtual 257, 3) := by decide +kernel
theorem dL_law__2027 : decode cL_law_ 2027 = .ok (.if_icmp .eq 465, 3) := by decide +kernel
theorem dL_law__2030 : decode cL_law_ 2030 = .ok (.iconst 0, 1) := by decide +kernel
theorem dL_law__2031 : decode cL_law_ 2031 = .ok (.ireturn, 1) := by decide +kernel
theorem dL_law__2032 : decode cL_law_ 2032 = .ok (.aload_n 1, 1) := by decide +kernel
theorem dL_law__2033 : decode cL_law_ 2033 = .ok (.aload_n 0, 1) := by decide +kernel
theorem dL_law__2034 : decode cL_law_ 2034 = .ok (.iload 4, 2) := by decide +kernel
theorem dL_law__2036 : decode cL_law_ 2036 = .ok (.iconst 1, 1) := by decide +kernel
theorem dL_law__2037 : decode cL_law_ 2037 = .ok (.iadd, 1) := by decide +kernel
theorem dL_law__2038 : decode cL_law_ 2038 = .ok (.iaload, 1) := by decide +kernel
theorem dL_law__2039 : decode cL_law_ 2039 = .ok (.aload_n 0, 1) := by decide +kernel
theorem dL_law__2040 : decode cL_law_ 2040 = .ok (.iload 4, 2) := by decide +kernel
theorem dL_law__2042 : decode cL_law_ 2042 = .ok (.iconst 2, 1) := by decide +kernel
theorem dL_law__2043 : decode cL_law_ 2043 = .ok (.iadd, 1) := by decide +kernel
theorem dL_law__2044 : decode cL_law_ 2044 = .ok (.iaload, 1) := by decide +kernel
theorem dL_law__2045 : decode cL_law_ 2045 = .ok (.aload_n 3, 1) := by decide +kernel
theorem dL_law__2046 : decode cL_law_ 2046 = .ok (.invokestatic 258, 3) := by decide +kernel
theorem dL_law__2049 : decode cL_law_ 2049 = .ok (.istore 5, 2) := by decide +kernel
theorem dL_law__2051 : decode cL_law_ 2051 = .ok (.aload_n 2, 1) := by decide +kernel
theorem dL_law__2052 : decode cL_law_ 2052 = .ok (.aload_n 0, 1) := by decide +kernel
theorem dL_law__2053 : decode cL_law_ 2053 = .ok (.iload 4, 2) := by decide +kernel
theorem dL_law__2055 : decode cL_law_ 2055 = .ok (.iconst 1, 1) := by decide +kernel
theorem dL_law__2056 : decode cL_law_ 2056 = .ok (.iadd, 1) := by decide +kernel
theorem dL_law__2057 : decode cL_law_ 2057 = .ok (.iaload, 1) := by decide +kernel
theorem dL_law__2058 : decode cL_law_ 2058 = .ok (.aload_n 0, 1) := by decide +kernel
theorem dL_law__2059 : decode cL_law_ 2059 = .ok (.iload 4, 2) := by decide +kernel
theorem dL_law__2061 : decode cL_law_ 2061 = .ok (.iconst 2, 1) := by decide +kernel
theorem dL_law__2062 : decode cL_law_ 2062 = .ok (.iadd, 1) := by decide +kernel
theorem dL_law__2063 : decode cL_law_ 2063 = .ok (.iaload, 1) := by decide +kernel
theorem dL_law__2064 : decode cL_law_ 2064 = .ok (.invokevirtual 260, 3) := by decide +kernel
theorem dL_law__2067 : decode cL_law_ 2067 = .ok (.istore 6, 2) := by decide +kernel
theorem dL_law__2069 : decode cL_law_ 2069 = .ok (.aload_n 2, 1) := by decide +kernel
theorem dL_law__2070 : decode cL_law_ 2070 = .ok (.invokevirtual 136, 3) := by decide +kernel
theorem dL_law__2073 : decode cL_law_ 2073 = .ok (.iload 5, 2) := by decide +kernel
theorem dL_law__2075 : decode cL_law_ 2075 = .ok (.if_icmp .eq 5, 3) := by decide +kernel
theorem dL_law__2078 : decode cL_law_ 2078 = .ok (.iconst 0, 1) := by decide +kernel
theorem dL_law__2079 : decode cL_law_ 2079 = .ok (.ireturn, 1) := by decide +kernel
theorem dL_law__2080 : decode cL_law_ 2080 = .ok (.iload 5, 2) := by decide +kernel
theorem dL_law__2082 : decode cL_law_ 2082 = .ok (.ifCond .ne 15, 3) := by decide +kernel
theorem dL_law__2085 : decode cL_law_ 2085 = .ok (.aload_n 3, 1) := by decide +kernel
theorem dL_law__2086 : decode cL_law_ 2086 = .ok (.iconst 0, 1) := by decide +kernel
theorem dL_law__2087 : decode cL_law_ 2087 = .ok (.laload, 1) := by decide +kernel
theorem dL_law__2088 : decode cL_law_ 2088 = .ok (.iload 6, 2) := by decide +kernel
theorem dL_law__2090 : decode cL_law_ 2090 = .ok (.i2l, 1) := by decide +kernel
theorem dL_law__2091 : decode cL_law_ 2091 = .ok (.lcmp, 1) := by decide +kernel
theorem dL_law__2092 : decode cL_law_ 2092 = .ok (.ifCond .eq 5, 3) := by decide +kernel
theorem dL_law__2095 : decode cL_law_ 2095 = .ok (.iconst 0, 1) := by decide +kernel
theorem dL_law__2096 : decode cL_law_ 2096 = .ok (.ireturn, 1) := by decide +kernel
theorem dL_law__2097 : decode cL_law_ 2097 = .ok (.goto 395, 3) := by decide +kernel
theorem dL_law__2100 : decode cL_law_ 2100 = .ok (.aload_n 1, 1) := by decide +kernel
theorem dL_law__2101 : decode cL_law_ 2101 = .ok (.invokevirtual 261, 3) := by decide +kernel
theorem dL_law__2104 : decode cL_law_ 2104 = .ok (.aload_n 2, 1) := by decide +kernel
theorem dL_law__2105 : decode cL_law_ 2105 = .ok (.invokevirtual 264, 3) := by decide +kernel
theorem dL_law__2108 : decode cL_law_ 2108 = .ok (.if_icmp .eq 384, 3) := by decide +kernel
theorem dL_law__2111 : decode cL_law_ 2111 = .ok (.iconst 0, 1) := by decide +kernel
theorem dL_law__2112 : decode cL_law_ 2112 = .ok (.ireturn, 1) := by decide +kernel
theorem dL_law__2113 : decode cL_law_ 2113 = .ok (.aload_n 1, 1) := by decide +kernel
theorem dL_law__2114 : decode cL_law_ 2114 = .ok (.aload_n 0, 1) := by decide +kernel
theorem dL_law__2115 : decode cL_law_ 2115 = .ok (.iload 4, 2) := by decide +kernel
theorem dL_law__2117 : decode cL_law_ 2117 = .ok (.iconst 1, 1) := by decide +kernel
theorem dL_law__2118 : decode cL_law_ 2118 = .ok (.iadd, 1) := by decide +kernel
theorem dL_law__2119 : decode cL_law_ 2119 = .ok (.iaload, 1) := by decide +kernel
theorem dL_law__2120 : decode cL_law_ 2120 = .ok (.aload_n 3, 1) := by decide +kernel
theorem dL_law__2121 : decode cL_law_ 2121 = .ok (.invokestatic 265, 3) := by decide +kernel
theorem dL_law__2124 : decode cL_law_ 2124 = .ok (.istore 5, 2) := by decide +kernel
theorem dL_law__2126 : decode cL_law_ 2126 = .ok (.aload_n 2, 1) := by decide +kernel
theorem dL_law__2127 : decode cL_law_ 2127 = .ok (.aload_n 0, 1) := by decide +kernel
theorem dL_law__2128 : decode cL_law_ 2128 = .ok (.iload 4, 2) := by decide +kernel
theorem dL_law__2130 : decode cL_law_ 2130 = .ok (.iconst 1, 1) := by decide +kernel
theorem dL_law__2131 : decode cL_law_ 2131 = .ok (.iadd, 1) := by decide +kernel
theorem dL_law__2132 : decode cL_law_ 2132 = .ok (.iaload, 1) := by decide +kernel
theorem dL_law__2133 : decode cL_law_ 2133 = .ok (.invokevirtual 267, 3) := by decide +kernel
theorem dL_law__2136 : decode cL_law_ 2136 = .ok (.istore 6, 2) := by decide +kernel
theorem dL_law__2138 : decode cL_law_ 2138 = .ok (.aload_n 2, 1) := by decide +kernel
theorem dL_law__2139 : decode cL_law_ 2139 = .ok (.invokevirtual 136, 3) := by decide +kernel
theorem dL_law__2142 : decode cL_law_ 2142 = .ok (.iload 5, 2) := by decide +kernel
theorem dL_law__2144 : decode cL_law_ 2144 = .ok (.if_icmp .eq 5, 3) := by decide +kernel
theorem dL_law__2147 : decode cL_law_ 2147 = .ok (.iconst 0, 1) := by decide +kernel
theorem dL_law__2148 : decode cL_law_ 2148 = .ok (.ireturn, 1) := by decide +kernel
theorem dL_law__2149 : decode cL_law_ 2149 = .ok (.iload 5, 2) := by decide +kernel
theorem dL_law__2151 : decode cL_law_ 2151 = .ok (.ifCond .ne 15, 3) := by decide +kernel
theorem dL_law__2154 : decode cL_law_ 2154 = .ok (.aload_n 3, 1) := by decide +kernel
theorem dL_law__2155 : decode cL_law_ 2155 = .ok (.iconst 0, 1) := by decide +kernel
theorem dL_law__2156 : decode cL_law_ 2156 = .ok (.laload, 1) := by decide +kernel
theorem dL_law__2157 : decode cL_law_ 2157 = .ok (.iload 6, 2) := by decide +kernel
theorem dL_law__2159 : decode cL_law_ 2159 = .ok (.i2l, 1) := by decide +kernel
theorem dL_law__2160 : decode cL_law_ 2160 = .ok (.lcmp, 1) := by decide +kernel
theorem dL_law__2161 : decode cL_law_ 2161 = .ok (.ifCond .eq 5, 3) := by decide +kernel
theorem dL_law__2164 : decode cL_law_ 2164 = .ok (.iconst 0, 1) := by decide +kernel
theorem dL_law__2165 : decode cL_law_ 2165 = .ok (.ireturn, 1) := by decide +kernel
theorem dL_law__2166 : decode cL_law_ 2166 = .ok (.goto 326, 3) := by decide +kernel
theorem dL_law__2169 : decode cL_law_ 2169 = .ok (.aload_n 1, 1) := by decide +kernel
theorem dL_law__2170 : decode cL_law_ 2170 = .ok (.aload_n 0, 1) := by decide +kernel
theorem dL_law__2171 : decode cL_law_ 2171 = .ok (.iload 4, 2) := by decide +kernel
theorem dL_law__2173 : decode cL_law_ 2173 = .ok (.iconst 1, 1) := by decide +kernel
theorem dL_law__2174 : decode cL_law_ 2174 = .ok (.iadd, 1) := by decide +kernel
theorem dL_law__2175 : decode cL_law_ 2175 = .ok (.iaload, 1) := by decide +kernel
theorem dL_law__2176 : decode cL_law_ 2176 = .ok (.aload_n 0, 1) := by decide +kernel
theorem dL_law__2177 : decode cL_law_ 2177 = .ok (.iload 4, 2) := by decide +kernel
theorem dL_law__2179 : decode cL_law_ 2179 = .ok (.iconst 2, 1) := by decide +kernel
theorem dL_law__2180 : decode cL_law_ 2180 = .ok (.iadd, 1) := by decide +kernel
theorem dL_law__2181 : decode cL_law_ 2181 = .ok (.iaload, 1) := by decide +kernel
theorem dL_law__2182 : decode cL_law_ 2182 = .ok (.ifCond .eq 7, 3) := by decide +kernel
theorem dL_law__2185 : decode cL_law_ 2185 = .ok (.iconst 1, 1) := by decide +kernel
theorem dL_law__2186 : decode cL_law_ 2186 = .ok (.goto 4, 3) := by decide +kernel
theorem dL_law__2189 : decode cL_law_ 2189 = .ok (.iconst 0, 1) := by decide +kernel
theorem dL_law__2190 : decode cL_law_ 2190 = .ok (.aload_n 3, 1) := by decide +kernel
theorem dL_law__2191 : decode cL_law_ 2191 = .ok (.invokestatic 268, 3) := by decide +kernel
theorem dL_law__2194 : decode cL_law_ 2194 = .ok (.istore 5, 2) := by decide +kernel
theorem dL_law__2196 : decode cL_law_ 2196 = .ok (.aload_n 2, 1) := by decide +kernel
theorem dL_law__2197 : decode cL_law_ 2197 = .ok (.aload_n 0, 1) := by decide +kernel
theorem dL_law__2198 : decode cL_law_ 2198 = .ok (.iload 4, 2) := by decide +kernel
theorem dL_law__2200 : decode cL_law_ 2200 = .ok (.iconst 1, 1) := by decide +kernel
theorem dL_law__2201 : decode cL_law_ 2201 = .ok (.iadd, 1) := by decide +kernel
theorem dL_law__2202 : decode cL_law_ 2202 = .ok (.iaload, 1) := by decide +kernel
theorem dL_law__2203 : decode cL_law_ 2203 = .ok (.aload_n 0, 1) := by decide +kernel
theorem dL_law__2204 : decode cL_law_ 2204 = .ok (.iload 4, 2) := by decide +kernel
theorem dL_law__2206 : decode cL_law_ 2206 = .ok (.iconst 2, 1) := by decide +kernel
theorem dL_law__2207 : decode cL_law_ 2207 = .ok (.iadd, 1) := by decide +kernel
theorem dL_law__2208 : decode cL_law_ 2208 = .ok (.iaload, 1) := by decide +kernel
theorem dL_law__2209 : decode cL_law_ 2209 = .ok (.ifCond .eq 7, 3) := by decide +kernel
theorem dL_law__2212 : decode cL_law_ 2212 = .ok (.iconst 1, 1) := by decide +kernel
theorem dL_law__2213 : decode cL_law_ 2213 = .ok (.goto 4, 3) := by decide +kernel
theorem dL_law__2216 : decode cL_law_ 2216 = .ok (.iconst 0, 1) := by decide +kernel
theorem dL_law__2217 : decode cL_law_ 2217 = .ok (.invokevirtual 270, 3) := by decide +kernel
theorem dL_law__2220 : decode cL_law_ 2220 = .ok (.istore 6, 2) := by decide +kernel
theorem dL_law__2222 : decode cL_law_ 2222 = .ok (.aload_n 2, 1) := by decide +kernel
theorem dL_law__2223 : decode cL_law_ 2223 = .ok (.invokevirtual 136, 3) := by decide +kernel
theorem dL_law__2226 : decode cL_law_ 2226 = .ok (.iload 5, 2) := by decide +kernel
theorem dL_law__2228 : decode cL_law_ 2228 = .ok (.if_icmp .eq 5, 3) := by decide +kernel
theorem dL_law__2231 : decode cL_law_ 2231 = .ok (.iconst 0, 1) := by decide +kernel
theorem dL_law__2232 : decode cL_law_ 2232 = .ok (.ireturn, 1) := by decide +kernel
theorem dL_law__2233 : decode cL_law_ 2233 = .ok (.iload 5, 2) := by decide +kernel
theorem dL_law__2235 : decode cL_law_ 2235 = .ok (.ifCond .ne 15, 3) := by decide +kernel
theorem dL_law__2238 : decode cL_law_ 2238 = .ok (.aload_n 3, 1) := by decide +kernel
theorem dL_law__2239 : decode cL_law_ 2239 = .ok (.iconst 0, 1) := by decide +kernel
theorem dL_law__2240 : decode cL_law_ 2240 = .ok (.laload, 1) := by decide +kernel
theorem dL_law__2241 : decode cL_law_ 2241 = .ok (.iload 6, 2) := by decide +kernel
theorem dL_law__2243 : decode cL_law_ 2243 = .ok (.i2l, 1) := by decide +kernel
theorem dL_law__2244 : decode cL_law_ 2244 = .ok (.lcmp, 1) := by decide +kernel
theorem dL_law__2245 : decode cL_law_ 2245 = .ok (.ifCond .eq 5, 3) := by decide +kernel
theorem dL_law__2248 : decode cL_law_ 2248 = .ok (.iconst 0, 1) := by decide +kernel
theorem dL_law__2249 : decode cL_law_ 2249 = .ok (.ireturn, 1) := by decide +kernel
theorem dL_law__2250 : decode cL_law_ 2250 = .ok (.goto 242, 3) := by decide +kernel
theorem dL_law__2253 : decode cL_law_ 2253 = .ok (.aload_n 1, 1) := by decide +kernel
theorem dL_law__2254 : decode cL_law_ 2254 = .ok (.aload_n 0, 1) := by decide +kernel
theorem dL_law__2255 : decode cL_law_ 2255 = .ok (.iload 4, 2) := by decide +kernel
theorem dL_law__2257 : decode cL_law_ 2257 = .ok (.iconst 1, 1) := by decide +kernel
theorem dL_law__2258 : decode cL_law_ 2258 = .ok (.iadd, 1) := by decide +kernel
theorem dL_law__2259 : decode cL_law_ 2259 = .ok (.iaload, 1) := by decide +kernel
theorem dL_law__2260 : decode cL_law_ 2260 = .ok (.aload_n 0, 1) := by decide +kernel
theorem dL_law__2261 : decode cL_law_ 2261 = .ok (.iload 4, 2) := by decide +kernel
theorem dL_law__2263 : decode cL_law_ 2263 = .ok (.iconst 2, 1) := by decide +kernel
theorem dL_law__2264 : decode cL_law_ 2264 = .ok (.iadd, 1) := by decide +kernel
theorem dL_law__2265 : decode cL_law_ 2265 = .ok (.iaload, 1) := by decide +kernel
theorem dL_law__2266 : decode cL_law_ 2266 = .ok (.ifCond .eq 7, 3) := by decide +kernel
theorem dL_law__2269 : decode cL_law_ 2269 = .ok (.iconst 1, 1) := by decide +kernel
theorem dL_law__2270 : decode cL_law_ 2270 = .ok (.goto 4, 3) := by decide +kernel
theorem dL_law__2273 : decode cL_law_ 2273 = .ok (.iconst 0, 1) := by decide +kernel
theorem dL_law__2274 : decode cL_law_ 2274 = .ok (.aload_n 3, 1) := by decide +kernel
theorem dL_law__2275 : decode cL_law_ 2275 = .ok (.invokestatic 271, 3) := by decide +kernel
theorem dL_law__2278 : decode cL_law_ 2278 = .ok (.istore 5, 2) := by decide +kernel
theorem dL_law__2280 : decode cL_law_ 2280 = .ok (.aload_n 2, 1) := by decide +kernel
theorem dL_law__2281 : decode cL_law_ 2281 = .ok (.aload_n 0, 1) := by decide +kernel
theorem dL_law__2282 : decode cL_law_ 2282 = .ok (.iload 4, 2) := by decide +kernel
theorem dL_law__2284 : decode cL_law_ 2284 = .ok (.iconst 1, 1) := by decide +kernel
theorem dL_law__2285 : decode cL_law_ 2285 = .ok (.iadd, 1) := by decide +kernel
theorem dL_law__2286 : decode cL_law_ 2286 = .ok (.iaload, 1) := by decide +kernel
theorem dL_law__2287 : decode cL_law_ 2287 = .ok (.aload_n 0, 1) := by decide +kernel
theorem dL_law__2288 : decode cL_law_ 2288 = .ok (.iload 4, 2) := by decide +kernel
theorem dL_law__2290 : decode cL_law_ 2290 = .ok (.iconst 2, 1) := by decide +kernel
theorem dL_law__2291 : decode cL_law_ 2291 = .ok (.iadd, 1) := by decide +kernel
theorem dL_law__2292 : decode cL_law_ 2292 = .ok (.iaload, 1) := by decide +kernel
theorem dL_law__2293 : decode cL_law_ 2293 = .ok (.ifCond .eq 7, 3) := by decide +kernel
theorem dL_law__2296 : decode cL_law_ 2296 = .ok (.iconst 1, 1) := by decide +kernel
theorem dL_law__2297 : decode cL_law_ 2297 = .ok (.goto 4, 3) := by decide +kernel
theorem dL_law__2300 : decode cL_law_ 2300 = .ok (.iconst 0, 1) := by decide +kernel
theorem dL_law__2301 : decode cL_law_ 2301 = .ok (.invokevirtual 273, 3) := by decide +kernel
theorem dL_law__2304 : decode cL_law_ 2304 = .ok (.istore 6, 2) := by decide +kernel
theorem dL_law__2306 : decode cL_law_ 2306 = .ok (.aload_n 2, 1) := by decide +kernel
theorem dL_law__2307 : decode cL_law_ 2307 = .ok (.invokevirtual 136, 3) := by decide +kernel
theorem dL_law__2310 : decode cL_law_ 2310 = .ok (.iload 5, 2) := by decide +kernel
theorem dL_law__2312 : decode cL_law_ 2312 = .ok (.if_icmp .eq 5, 3) := by decide +kernel
theorem dL_law__2315 : decode cL_law_ 2315 = .ok (.iconst 0, 1) := by decide +kernel
theorem dL_law__2316 : decode cL_law_ 2316 = .ok (.ireturn, 1) := by decide +kernel
theorem dL_law__2317 : decode cL_law_ 2317 = .ok (.iload 5, 2) := by decide +kernel
theorem dL_law__2319 : decode cL_law_ 2319 = .ok (.ifCond .ne 15, 3) := by decide +kernel
theorem dL_law__2322 : decode cL_law_ 2322 = .ok (.aload_n 3, 1) := by decide +kernel
theorem dL_law__2323 : decode cL_law_ 2323 = .ok (.iconst 0, 1) := by decide +kernel
theorem dL_law__2324 : decode cL_law_ 2324 = .ok (.laload, 1) := by decide +kernel
theorem dL_law__2325 : decode cL_law_ 2325 = .ok (.iload 6, 2) := by decide +kernel
theorem dL_law__2327 : decode cL_law_ 2327 = .ok (.i2l, 1) := by decide +kernel
theorem dL_law__2328 : decode cL_law_ 2328 = .ok (.lcmp, 1) := by decide +kernel
theorem dL_law__2329 : decode cL_law_ 2329 = .ok (.ifCond .eq 5, 3) := by decide +kernel
theorem dL_law__2332 : decode cL_law_ 2332 = .ok (.iconst 0, 1) := by decide +kernel
theorem dL_law__2333 : decode cL_law_ 2333 = .ok (.ireturn, 1) := by decide +kernel
theorem dL_law__2334 : decode cL_law_ 2334 = .ok (.goto 158, 3) := by decide +kernel
theorem dL_law__2337 : decode cL_law_ 2337 = .ok (.aload_n 1, 1) := by decide +kernel
theorem dL_law__2338 : decode cL_law_ 2338 = .ok (.aload_n 0, 1) := by decide +kernel
theorem dL_law__2339 : decode cL_law_ 2339 = .ok (.iload 4, 2) := by decide +kernel
theorem dL_law__2341 : decode cL_law_ 2341 = .ok (.iconst 1, 1) := by decide +kernel
theorem dL_law__2342 : decode cL_law_ 2342 = .ok (.iadd, 1) := by decide +kernel
theorem dL_law__2343 : decode cL_law_ 2343 = .ok (.iaload, 1) := by decide +kernel
theorem dL_law__2344 : decode cL_law_ 2344 = .ok (.aload_n 0, 1) := by decide +kernel
theorem dL_law__2345 : decode cL_law_ 2345 = .ok (.iload 4, 2) := by decide +kernel
theorem dL_law__2347 : decode cL_law_ 2347 = .ok (.iconst 2, 1) := by decide +kernel
theorem dL_law__2348 : decode cL_law_ 2348 = .ok (.iadd, 1) := by decide +kernel
theorem dL_law__2349 : decode cL_law_ 2349 = .ok (.iaload, 1) := by decide +kernel
theorem dL_law__2350 : decode cL_law_ 2350 = .ok (.aload_n 3, 1) := by decide +kernel
theorem dL_law__2351 : decode cL_law_ 2351 = .ok (.invokestatic 274, 3) := by decide +kernel
theorem dL_law__2354 : decode cL_law_ 2354 = .ok (.istore 5, 2) := by decide +kernel
theorem dL_law__2356 : decode cL_law_ 2356 = .ok (.aload_n 2, 1) := by decide +kernel
theorem dL_law__2357 : decode cL_law_ 2357 = .ok (.aload_n 0, 1) := by decide +kernel
theorem dL_law__2358 : decode cL_law_ 2358 = .ok (.iload 4, 2) := by decide +kernel
theorem dL_law__2360 : decode cL_law_ 2360 = .ok (.iconst 1, 1) := by decide +kernel
theorem dL_law__2361 : decode cL_law_ 2361 = .ok (.iadd, 1) := by decide +kernel
theorem dL_law__2362 : decode cL_law_ 2362 = .ok (.iaload, 1) := by decide +kernel
theorem dL_law__2363 : decode cL_law_ 2363 = .ok (.aload_n 0, 1) := by decide +kernel
theorem dL_law__2364 : decode cL_law_ 2364 = .ok (.iload 4, 2) := by decide +kernel
theorem dL_law__2366 : decode cL_law_ 2366 = .ok (.iconst 2, 1) := by decide +kernel
theorem dL_law__2367 : decode cL_law_ 2367 = .ok (.iadd, 1) := by decide +kernel
theorem dL_law__2368 : decode cL_law_ 2368 = .ok (.iaload, 1) := by decide +kernel
theorem dL_law__2369 : decode cL_law_ 2369 = .ok (.invokevirtual 276, 3) := by decide +kernel
theorem dL_law__2372 : decode cL_law_ 2372 = .ok (.istore 6, 2) := by decide +kernel
theorem dL_law__2374 : decode cL_law_ 2374 = .ok (.aload_n 2, 1) := by decide +kernel
theorem dL_law__2375 : decode cL_law_ 2375 = .ok (.invokevirtual 136, 3) := by decide +kernel
theorem dL_law__2378 : decode cL_law_ 2378 = .ok (.iload 5, 2) := by decide +kernel
theorem dL_law__2380 : decode cL_law_ 2380 = .ok (.if_icmp .eq 5, 3) := by decide +kernel
theorem dL_law__2383 : decode cL_law_ 2383 = .ok (.iconst 0, 1) := by decide +kernel
theorem dL_law__2384 : decode cL_law_ 2384 = .ok (.ireturn, 1) := by decide +kernel
theorem dL_law__2385 : decode cL_law_ 2385 = .ok (.iload 5, 2) := by decide +kernel
theorem dL_law__2387 : decode cL_law_ 2387 = .ok (.ifCond .ne 15, 3) := by decide +kernel
theorem dL_law__2390 : decode cL_law_ 2390 = .ok (.aload_n 3, 1) := by decide +kernel
theorem dL_law__2391 : decode cL_law_ 2391 = .ok (.iconst 0, 1) := by decide +kernel
theorem dL_law__2392 : decode cL_law_ 2392 = .ok (.laload, 1) := by decide +kernel
theorem dL_law__2393 : decode cL_law_ 2393 = .ok (.iload 6, 2) := by decide +kernel
theorem dL_law__2395 : decode cL_law_ 2395 = .ok (.i2l, 1) := by decide +kernel
theorem dL_law__2396 : decode cL_law_ 2396 = .ok (.lcmp, 1) := by decide +kernel
theorem dL_law__2397 : decode cL_law_ 2397 = .ok (.ifCond .eq 5, 3) := by decide +kernel
theorem dL_law__2400 : decode cL_law_ 2400 = .ok (.iconst 0, 1) := by decide +kernel
theorem dL_law__2401 : decode cL_law_ 2401 = .ok (.ireturn, 1) := by decide +kernel
theorem dL_law__2402 : decode cL_law_ 2402 = .ok (.goto 90, 3) := by decide +kernel
theorem dL_law__2405 : decode cL_law_ 2405 = .ok (.aload_n 1, 1) := by decide +kernel
theorem dL_law__2406 : decode cL_law_ 2406 = .ok (.aload_n 0, 1) := by decide +kernel
theorem dL_law__2407 : decode cL_law_ 2407 = .ok (.iload 4, 2) := by decide +kernel
theorem dL_law__2409 : decode cL_law_ 2409 = .ok (.iconst 1, 1) := by decide +kernel
theorem dL_law__2410 : decode cL_law_ 2410 = .ok (.iadd, 1) := by decide +kernel
theorem dL_law__2411 : decode cL_law_ 2411 = .ok (.iaload, 1) := by decide +kernel
theorem dL_law__2412 : decode cL_law_ 2412 = .ok (.invokevirtual 277, 3) := by decide +kernel
theorem dL_law__2415 : decode cL_law_ 2415 = .ok (.aload_n 2, 1) := by decide +kernel
theorem dL_law__2416 : decode cL_law_ 2416 = .ok (.aload_n 0, 1) := by decide +kernel
theorem dL_law__2417 : decode cL_law_ 2417 = .ok (.iload 4, 2) := by decide +kernel
theorem dL_law__2419 : decode cL_law_ 2419 = .ok (.iconst 1, 1) := by decide +kernel
theorem dL_law__2420 : decode cL_law_ 2420 = .ok (.iadd, 1) := by decide +kernel
theorem dL_law__2421 : decode cL_law_ 2421 = .ok (.iaload, 1) := by decide +kernel
theorem dL_law__2422 : decode cL_law_ 2422 = .ok (.invokevirtual 280, 3) := by decide +kernel
theorem dL_law__2425 : decode cL_law_ 2425 = .ok (.if_icmp .eq 67, 3) := by decide +kernel
theorem dL_law__2428 : decode cL_law_ 2428 = .ok (.iconst 0, 1) := by decide +kernel
theorem dL_law__2429 : decode cL_law_ 2429 = .ok (.ireturn, 1) := by decide +kernel
theorem dL_law__2430 : decode cL_law_ 2430 = .ok (.aload_n 1, 1) := by decide +kernel
theorem dL_law__2431 : decode cL_law_ 2431 = .ok (.invokevirtual 281, 3) := by decide +kernel
theorem dL_law__2434 : decode cL_law_ 2434 = .ok (.aload_n 2, 1) := by decide +kernel
theorem dL_law__2435 : decode cL_law_ 2435 = .ok (.invokevirtual 285, 3) := by decide +kernel
theorem dL_law__2438 : decode cL_law_ 2438 = .ok (.if_icmp .eq 54, 3) := by decide +kernel
theorem dL_law__2441 : decode cL_law_ 2441 = .ok (.iconst 0, 1) := by decide +kernel
theorem dL_law__2442 : decode cL_law_ 2442 = .ok (.ireturn, 1) := by decide +kernel
theorem dL_law__2443 : decode cL_law_ 2443 = .ok (.aload_n 1, 1) := by decide +kernel
theorem dL_law__2444 : decode cL_law_ 2444 = .ok (.invokevirtual 286, 3) := by decide +kernel
theorem dL_law__2447 : decode cL_law_ 2447 = .ok (.aload_n 2, 1) := by decide +kernel
theorem dL_law__2448 : decode cL_law_ 2448 = .ok (.invokevirtual 289, 3) := by decide +kernel
theorem dL_law__2451 : decode cL_law_ 2451 = .ok (.goto 41, 3) := by decide +kernel
theorem dL_law__2454 : decode cL_law_ 2454 = .ok (.aload_n 1, 1) := by decide +kernel
theorem dL_law__2455 : decode cL_law_ 2455 = .ok (.invokevirtual 290, 3) := by decide +kernel
theorem dL_law__2458 : decode cL_law_ 2458 = .ok (.aload_n 2, 1) := by decide +kernel
theorem dL_law__2459 : decode cL_law_ 2459 = .ok (.invokevirtual 293, 3) := by decide +kernel
theorem dL_law__2462 : decode cL_law_ 2462 = .ok (.if_icmp .eq 30, 3) := by decide +kernel
theorem dL_law__2465 : decode cL_law_ 2465 = .ok (.iconst 0, 1) := by decide +kernel
theorem dL_law__2466 : decode cL_law_ 2466 = .ok (.ireturn, 1) := by decide +kernel
theorem dL_law__2467 : decode cL_law_ 2467 = .ok (.aload_n 1, 1) := by decide +kernel
theorem dL_law__2468 : decode cL_law_ 2468 = .ok (.aload_n 0, 1) := by decide +kernel
theorem dL_law__2469 : decode cL_law_ 2469 = .ok (.iload 4, 2) := by decide +kernel
theorem dL_law__2471 : decode cL_law_ 2471 = .ok (.iconst 1, 1) := by decide +kernel
theorem dL_law__2472 : decode cL_law_ 2472 = .ok (.iadd, 1) := by decide +kernel
theorem dL_law__2473 : decode cL_law_ 2473 = .ok (.iaload, 1) := by decide +kernel
theorem dL_law__2474 : decode cL_law_ 2474 = .ok (.invokevirtual 294, 3) := by decide +kernel
theorem dL_law__2477 : decode cL_law_ 2477 = .ok (.aload_n 2, 1) := by decide +kernel
theorem dL_law__2478 : decode cL_law_ 2478 = .ok (.aload_n 0, 1) := by decide +kernel
theorem dL_law__2479 : decode cL_law_ 2479 = .ok (.iload 4, 2) := by decide +kernel
theorem dL_law__2481 : decode cL_law_ 2481 = .ok (.iconst 1, 1) := by decide +kernel
theorem dL_law__2482 : decode cL_law_ 2482 = .ok (.iadd, 1) := by decide +kernel
theorem dL_law__2483 : decode cL_law_ 2483 = .ok (.iaload, 1) := by decide +kernel
theorem dL_law__2484 : decode cL_law_ 2484 = .ok (.invokevirtual 297, 3) := by decide +kernel
theorem dL_law__2487 : decode cL_law_ 2487 = .ok (.if_icmp .eq 5, 3) := by decide +kernel
theorem dL_law__2490 : decode cL_law_ 2490 = .ok (.iconst 0, 1) := by decide +kernel
theorem dL_law__2491 : decode cL_law_ 2491 = .ok (.ireturn, 1) := by decide +kernel
theorem dL_law__2492 : decode cL_law_ 2492 = .ok (.iinc 4 6, 3) := by decide +kernel
theorem dL_law__2495 : decode cL_law_ 2495 = .ok (.goto (-2472), 3) := by decide +kernel
theorem dL_law__2498 : decode cL_law_ 2498 = .ok (.iconst 1, 1) := by decide +kernel
theorem dL_law__2499 : decode cL_law_ 2499 = .ok (.ireturn, 1) := by decide +kernel
