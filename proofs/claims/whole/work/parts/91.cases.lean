/-! The law's body. -/
abbrev mL : MD := (x, code, maxLocals, ret)
def lwO : Array Int := #[271, 334, 357, 370, 383, 396, 409, 422, 435, 448, 461, 474, 487, 500, 513, 536, 559, 582, 605, 628, 651, 674, 697, 720, 743, 776, 799, 822, 845, 858, 891, 914, 927, 960, 993, 1016, 1049, 1082, 1105, 1128, 1141, 1154, 1177, 1200, 1223, 1236, 1249, 1272, 1285, 1298, 1321, 1344, 1367, 1380, 1413, 1436, 1459, 1472, 1485, 1508, 1541, 1554, 1577, 1610]
def lwT (c : Nat) : Nat := (33 + lwO.toList.getD c 0).toNat
theorem lw_off : ∀ c, c < 64 → lwO[c]? = some (((lwT c : Nat) : Int) - 33) := by decide
abbrev lwV (G : GM) (n : Nat) : List (Nat × Value) := [(3, .int (nI (6 * n))), (2, .ref (gz G + 221)), (1, .ref (gz G + 0)), (0, .ref (gB G))]
theorem lw_in {n j L : Nat} (hi : 6 * n + 6 ≤ L) (hL : L ≤ 3072) (hj : j < 6) : vp_in (nI (6 * n) + nI j) L := by
  rw [nI_add]
  exact vp_in_nI (by omega) (by omega)
theorem hz_c00 {G : GM} {h : List va_E} {n : Nat} (H : HZ G h n) : ∃ fs, h[0]? = some (.inr (7, fs)) := by
  obtain ⟨w, m, hw, -⟩ := H
  exact ⟨_, hwc0 hw⟩
theorem tr_wk {l : Launch} {G : GM} {M : MD} {d k k2 u u2 pc : Nat} {lv : List (Nat × Value)} {rest : List Value} {h : List va_E} {Q : Option Value → List va_E → Prop} (hk : k2 ≤ k) (hu : u2 ≤ u) (t : Tr l G M d k2 u2 pc lv rest h Q) : Tr l G M d k u pc lv rest h Q := by
  intro p e R s m args below meth c H locs cells slots mc ms ls F
  obtain ⟨f1, f2, ⟨r1, r2, r3, r4, r5, r6⟩, f4⟩ := F
  exact t p e R s m args below meth c H locs cells slots mc ms ls ⟨f1, f2, ⟨r1, r2, r3, r4, by omega, by omega⟩, f4⟩
theorem am_tsw {l : Launch} {G : GM} {M : MD} {d k u pc : Nat} {lv : List (Nat × Value)} {rest : List Value} {h : List va_E} {Q : Option Value → List va_E → Prop} {y : Int32} {dflt lo hi : Int} {offs : Array Int} {len : Nat} {off : Int} {tgt : Nat} (hd : decode M.2.1 pc = .ok (.tableswitch dflt lo hi offs, len)) (h1 : ¬ y.toInt < lo) (h2 : ¬ hi < y.toInt) (ho : offs[(y.toInt - lo).toNat]? = some off) (ht : (pc : Int) + off = (tgt : Int)) (k1 : Tr l G M d k u tgt lv rest h Q) : Tr l G M d k u pc lv (.int y :: rest) h Q := by
  intro p e R s m args below meth c H locs cells slots mc ms ls F
  exact lv_tableIn F.1.1 F.1.2.1 hd h1 h2 ho ht (k1 p e R s m args below meth c H locs cells slots mc ms ls F)
theorem lw_63 (a : Int32) : ∃ c : Nat, c < 64 ∧ a &&& 63 = nI c := by
  refine ⟨(a.toBitVec &&& 63#32).toNat, ?_, ?_⟩
  · have : (a.toBitVec &&& 63#32).toNat ≤ 63 := by
      rw [BitVec.toNat_and]
      exact Nat.and_le_right
    omega
  · apply Int32.toBitVec.inj
    apply BitVec.eq_of_toNat_eq
    show (a.toBitVec &&& 63#32).toNat = (BitVec.ofNat 32 (a.toBitVec &&& 63#32).toNat).toNat
    rw [BitVec.toNat_ofNat, Nat.mod_eq_of_lt (BitVec.isLt _)]
theorem dL_304 : decode code 304 = .ok (.aload_n 1, 1) := by decide +kernel
theorem dL_305 : decode code 305 = .ok (.aload_n 0, 1) := by decide +kernel
theorem dL_306 : decode code 306 = .ok (.iload_n 3, 1) := by decide +kernel
theorem dL_307 : decode code 307 = .ok (.iconst 1, 1) := by decide +kernel
theorem dL_308 : decode code 308 = .ok (.iadd, 1) := by decide +kernel
theorem dL_309 : decode code 309 = .ok (.iaload, 1) := by decide +kernel
theorem dL_310 : decode code 310 = .ok (.aload_n 0, 1) := by decide +kernel
theorem dL_311 : decode code 311 = .ok (.iload_n 3, 1) := by decide +kernel
theorem dL_312 : decode code 312 = .ok (.iconst 2, 1) := by decide +kernel
theorem dL_313 : decode code 313 = .ok (.iadd, 1) := by decide +kernel
theorem dL_314 : decode code 314 = .ok (.iaload, 1) := by decide +kernel
theorem dL_315 : decode code 315 = .ok (.aload_n 0, 1) := by decide +kernel
theorem dL_316 : decode code 316 = .ok (.iload_n 3, 1) := by decide +kernel
theorem dL_317 : decode code 317 = .ok (.iconst 3, 1) := by decide +kernel
theorem dL_318 : decode code 318 = .ok (.iadd, 1) := by decide +kernel
theorem dL_319 : decode code 319 = .ok (.iaload, 1) := by decide +kernel
theorem dL_320 : decode code 320 = .ok (.aload_n 0, 1) := by decide +kernel
theorem dL_321 : decode code 321 = .ok (.iload_n 3, 1) := by decide +kernel
theorem dL_322 : decode code 322 = .ok (.iconst 4, 1) := by decide +kernel
theorem dL_323 : decode code 323 = .ok (.iadd, 1) := by decide +kernel
theorem dL_324 : decode code 324 = .ok (.iaload, 1) := by decide +kernel
theorem dL_325 : decode code 325 = .ok (.aload_n 0, 1) := by decide +kernel
theorem dL_326 : decode code 326 = .ok (.iload_n 3, 1) := by decide +kernel
theorem dL_327 : decode code 327 = .ok (.iconst 5, 1) := by decide +kernel
theorem dL_328 : decode code 328 = .ok (.iadd, 1) := by decide +kernel
theorem dL_329 : decode code 329 = .ok (.iaload, 1) := by decide +kernel
theorem dL_330 : decode code 330 = .ok (.invokevirtual 13, 3) := by decide +kernel
theorem dL_333 : decode code 333 = .ok (.aload_n 2, 1) := by decide +kernel
theorem dL_334 : decode code 334 = .ok (.aload_n 0, 1) := by decide +kernel
theorem dL_335 : decode code 335 = .ok (.iload_n 3, 1) := by decide +kernel
theorem dL_336 : decode code 336 = .ok (.iconst 1, 1) := by decide +kernel
theorem dL_337 : decode code 337 = .ok (.iadd, 1) := by decide +kernel
theorem dL_338 : decode code 338 = .ok (.iaload, 1) := by decide +kernel
theorem dL_339 : decode code 339 = .ok (.aload_n 0, 1) := by decide +kernel
theorem dL_340 : decode code 340 = .ok (.iload_n 3, 1) := by decide +kernel
theorem dL_341 : decode code 341 = .ok (.iconst 2, 1) := by decide +kernel
theorem dL_342 : decode code 342 = .ok (.iadd, 1) := by decide +kernel
theorem dL_343 : decode code 343 = .ok (.iaload, 1) := by decide +kernel
theorem dL_344 : decode code 344 = .ok (.aload_n 0, 1) := by decide +kernel
theorem dL_345 : decode code 345 = .ok (.iload_n 3, 1) := by decide +kernel
theorem dL_346 : decode code 346 = .ok (.iconst 3, 1) := by decide +kernel
theorem dL_347 : decode code 347 = .ok (.iadd, 1) := by decide +kernel
theorem dL_348 : decode code 348 = .ok (.iaload, 1) := by decide +kernel
theorem dL_349 : decode code 349 = .ok (.aload_n 0, 1) := by decide +kernel
theorem dL_350 : decode code 350 = .ok (.iload_n 3, 1) := by decide +kernel
theorem dL_351 : decode code 351 = .ok (.iconst 4, 1) := by decide +kernel
theorem dL_352 : decode code 352 = .ok (.iadd, 1) := by decide +kernel
theorem dL_353 : decode code 353 = .ok (.iaload, 1) := by decide +kernel
theorem dL_354 : decode code 354 = .ok (.aload_n 0, 1) := by decide +kernel
theorem dL_355 : decode code 355 = .ok (.iload_n 3, 1) := by decide +kernel
theorem dL_356 : decode code 356 = .ok (.iconst 5, 1) := by decide +kernel
theorem dL_357 : decode code 357 = .ok (.iadd, 1) := by decide +kernel
theorem dL_358 : decode code 358 = .ok (.iaload, 1) := by decide +kernel
theorem dL_359 : decode code 359 = .ok (.invokevirtual 17, 3) := by decide +kernel
theorem dL_362 : decode code 362 = .ok (.if_icmp .eq 1314, 3) := by decide +kernel
theorem dL_367 : decode code 367 = .ok (.aload_n 1, 1) := by decide +kernel
theorem dL_368 : decode code 368 = .ok (.aload_n 0, 1) := by decide +kernel
theorem dL_369 : decode code 369 = .ok (.iload_n 3, 1) := by decide +kernel
theorem dL_370 : decode code 370 = .ok (.iconst 1, 1) := by decide +kernel
theorem dL_371 : decode code 371 = .ok (.iadd, 1) := by decide +kernel
theorem dL_372 : decode code 372 = .ok (.iaload, 1) := by decide +kernel
theorem dL_373 : decode code 373 = .ok (.invokevirtual 18, 3) := by decide +kernel
theorem dL_376 : decode code 376 = .ok (.aload_n 2, 1) := by decide +kernel
theorem dL_377 : decode code 377 = .ok (.aload_n 0, 1) := by decide +kernel
theorem dL_378 : decode code 378 = .ok (.iload_n 3, 1) := by decide +kernel
theorem dL_379 : decode code 379 = .ok (.iconst 1, 1) := by decide +kernel
theorem dL_380 : decode code 380 = .ok (.iadd, 1) := by decide +kernel
theorem dL_381 : decode code 381 = .ok (.iaload, 1) := by decide +kernel
theorem dL_382 : decode code 382 = .ok (.invokevirtual 22, 3) := by decide +kernel
theorem dL_385 : decode code 385 = .ok (.if_icmp .eq 1291, 3) := by decide +kernel
theorem dL_390 : decode code 390 = .ok (.aload_n 1, 1) := by decide +kernel
theorem dL_391 : decode code 391 = .ok (.invokevirtual 23, 3) := by decide +kernel
theorem dL_394 : decode code 394 = .ok (.aload_n 2, 1) := by decide +kernel
theorem dL_395 : decode code 395 = .ok (.invokevirtual 27, 3) := by decide +kernel
theorem dL_398 : decode code 398 = .ok (.if_icmp .eq 1278, 3) := by decide +kernel
theorem dL_403 : decode code 403 = .ok (.aload_n 1, 1) := by decide +kernel
theorem dL_404 : decode code 404 = .ok (.invokevirtual 28, 3) := by decide +kernel
theorem dL_407 : decode code 407 = .ok (.aload_n 2, 1) := by decide +kernel
theorem dL_408 : decode code 408 = .ok (.invokevirtual 31, 3) := by decide +kernel
theorem dL_411 : decode code 411 = .ok (.if_icmp .eq 1265, 3) := by decide +kernel
theorem dL_416 : decode code 416 = .ok (.aload_n 1, 1) := by decide +kernel
theorem dL_417 : decode code 417 = .ok (.invokevirtual 32, 3) := by decide +kernel
theorem dL_420 : decode code 420 = .ok (.aload_n 2, 1) := by decide +kernel
theorem dL_421 : decode code 421 = .ok (.invokevirtual 35, 3) := by decide +kernel
theorem dL_424 : decode code 424 = .ok (.if_icmp .eq 1252, 3) := by decide +kernel
theorem dL_429 : decode code 429 = .ok (.aload_n 1, 1) := by decide +kernel
theorem dL_430 : decode code 430 = .ok (.invokevirtual 36, 3) := by decide +kernel
theorem dL_433 : decode code 433 = .ok (.aload_n 2, 1) := by decide +kernel
theorem dL_434 : decode code 434 = .ok (.invokevirtual 39, 3) := by decide +kernel
theorem dL_437 : decode code 437 = .ok (.if_icmp .eq 1239, 3) := by decide +kernel
theorem dL_442 : decode code 442 = .ok (.aload_n 1, 1) := by decide +kernel
theorem dL_443 : decode code 443 = .ok (.invokevirtual 40, 3) := by decide +kernel
theorem dL_446 : decode code 446 = .ok (.aload_n 2, 1) := by decide +kernel
theorem dL_447 : decode code 447 = .ok (.invokevirtual 43, 3) := by decide +kernel
theorem dL_450 : decode code 450 = .ok (.if_icmp .eq 1226, 3) := by decide +kernel
theorem dL_455 : decode code 455 = .ok (.aload_n 1, 1) := by decide +kernel
theorem dL_456 : decode code 456 = .ok (.invokevirtual 44, 3) := by decide +kernel
theorem dL_459 : decode code 459 = .ok (.aload_n 2, 1) := by decide +kernel
theorem dL_460 : decode code 460 = .ok (.invokevirtual 47, 3) := by decide +kernel
theorem dL_463 : decode code 463 = .ok (.if_icmp .eq 1213, 3) := by decide +kernel
theorem dL_468 : decode code 468 = .ok (.aload_n 1, 1) := by decide +kernel
theorem dL_469 : decode code 469 = .ok (.invokevirtual 48, 3) := by decide +kernel
theorem dL_472 : decode code 472 = .ok (.aload_n 2, 1) := by decide +kernel
theorem dL_473 : decode code 473 = .ok (.invokevirtual 51, 3) := by decide +kernel
theorem dL_476 : decode code 476 = .ok (.if_icmp .eq 1200, 3) := by decide +kernel
theorem dL_481 : decode code 481 = .ok (.aload_n 1, 1) := by decide +kernel
theorem dL_482 : decode code 482 = .ok (.invokevirtual 52, 3) := by decide +kernel
theorem dL_485 : decode code 485 = .ok (.aload_n 2, 1) := by decide +kernel
theorem dL_486 : decode code 486 = .ok (.invokevirtual 55, 3) := by decide +kernel
theorem dL_489 : decode code 489 = .ok (.if_icmp .eq 1187, 3) := by decide +kernel
theorem dL_494 : decode code 494 = .ok (.aload_n 1, 1) := by decide +kernel
theorem dL_495 : decode code 495 = .ok (.invokevirtual 56, 3) := by decide +kernel
theorem dL_498 : decode code 498 = .ok (.aload_n 2, 1) := by decide +kernel
theorem dL_499 : decode code 499 = .ok (.invokevirtual 59, 3) := by decide +kernel
theorem dL_502 : decode code 502 = .ok (.if_icmp .eq 1174, 3) := by decide +kernel
theorem dL_507 : decode code 507 = .ok (.aload_n 1, 1) := by decide +kernel
theorem dL_508 : decode code 508 = .ok (.invokevirtual 60, 3) := by decide +kernel
theorem dL_511 : decode code 511 = .ok (.aload_n 2, 1) := by decide +kernel
theorem dL_512 : decode code 512 = .ok (.invokevirtual 63, 3) := by decide +kernel
theorem dL_515 : decode code 515 = .ok (.if_icmp .eq 1161, 3) := by decide +kernel
theorem dL_520 : decode code 520 = .ok (.aload_n 1, 1) := by decide +kernel
theorem dL_521 : decode code 521 = .ok (.invokevirtual 64, 3) := by decide +kernel
theorem dL_524 : decode code 524 = .ok (.aload_n 2, 1) := by decide +kernel
theorem dL_525 : decode code 525 = .ok (.invokevirtual 67, 3) := by decide +kernel
theorem dL_528 : decode code 528 = .ok (.if_icmp .eq 1148, 3) := by decide +kernel
theorem dL_533 : decode code 533 = .ok (.aload_n 1, 1) := by decide +kernel
theorem dL_534 : decode code 534 = .ok (.invokevirtual 68, 3) := by decide +kernel
theorem dL_537 : decode code 537 = .ok (.aload_n 2, 1) := by decide +kernel
theorem dL_538 : decode code 538 = .ok (.invokevirtual 71, 3) := by decide +kernel
theorem dL_541 : decode code 541 = .ok (.if_icmp .eq 1135, 3) := by decide +kernel
theorem dL_546 : decode code 546 = .ok (.aload_n 1, 1) := by decide +kernel
theorem dL_547 : decode code 547 = .ok (.aload_n 0, 1) := by decide +kernel
theorem dL_548 : decode code 548 = .ok (.iload_n 3, 1) := by decide +kernel
theorem dL_549 : decode code 549 = .ok (.iconst 1, 1) := by decide +kernel
theorem dL_550 : decode code 550 = .ok (.iadd, 1) := by decide +kernel
theorem dL_551 : decode code 551 = .ok (.iaload, 1) := by decide +kernel
theorem dL_552 : decode code 552 = .ok (.invokevirtual 72, 3) := by decide +kernel
theorem dL_555 : decode code 555 = .ok (.aload_n 2, 1) := by decide +kernel
theorem dL_556 : decode code 556 = .ok (.aload_n 0, 1) := by decide +kernel
theorem dL_557 : decode code 557 = .ok (.iload_n 3, 1) := by decide +kernel
theorem dL_558 : decode code 558 = .ok (.iconst 1, 1) := by decide +kernel
theorem dL_559 : decode code 559 = .ok (.iadd, 1) := by decide +kernel
theorem dL_560 : decode code 560 = .ok (.iaload, 1) := by decide +kernel
theorem dL_561 : decode code 561 = .ok (.invokevirtual 75, 3) := by decide +kernel
theorem dL_564 : decode code 564 = .ok (.if_icmp .eq 1112, 3) := by decide +kernel
theorem dL_569 : decode code 569 = .ok (.aload_n 1, 1) := by decide +kernel
theorem dL_570 : decode code 570 = .ok (.aload_n 0, 1) := by decide +kernel
theorem dL_571 : decode code 571 = .ok (.iload_n 3, 1) := by decide +kernel
theorem dL_572 : decode code 572 = .ok (.iconst 1, 1) := by decide +kernel
theorem dL_573 : decode code 573 = .ok (.iadd, 1) := by decide +kernel
theorem dL_574 : decode code 574 = .ok (.iaload, 1) := by decide +kernel
theorem dL_575 : decode code 575 = .ok (.invokevirtual 76, 3) := by decide +kernel
theorem dL_578 : decode code 578 = .ok (.aload_n 2, 1) := by decide +kernel
theorem dL_579 : decode code 579 = .ok (.aload_n 0, 1) := by decide +kernel
theorem dL_580 : decode code 580 = .ok (.iload_n 3, 1) := by decide +kernel
theorem dL_581 : decode code 581 = .ok (.iconst 1, 1) := by decide +kernel
theorem dL_582 : decode code 582 = .ok (.iadd, 1) := by decide +kernel
theorem dL_583 : decode code 583 = .ok (.iaload, 1) := by decide +kernel
theorem dL_584 : decode code 584 = .ok (.invokevirtual 79, 3) := by decide +kernel
theorem dL_587 : decode code 587 = .ok (.if_icmp .eq 1089, 3) := by decide +kernel
theorem dL_592 : decode code 592 = .ok (.aload_n 1, 1) := by decide +kernel
theorem dL_593 : decode code 593 = .ok (.aload_n 0, 1) := by decide +kernel
theorem dL_594 : decode code 594 = .ok (.iload_n 3, 1) := by decide +kernel
theorem dL_595 : decode code 595 = .ok (.iconst 1, 1) := by decide +kernel
theorem dL_596 : decode code 596 = .ok (.iadd, 1) := by decide +kernel
theorem dL_597 : decode code 597 = .ok (.iaload, 1) := by decide +kernel
theorem dL_598 : decode code 598 = .ok (.invokevirtual 80, 3) := by decide +kernel
theorem dL_601 : decode code 601 = .ok (.aload_n 2, 1) := by decide +kernel
theorem dL_602 : decode code 602 = .ok (.aload_n 0, 1) := by decide +kernel
theorem dL_603 : decode code 603 = .ok (.iload_n 3, 1) := by decide +kernel
theorem dL_604 : decode code 604 = .ok (.iconst 1, 1) := by decide +kernel
theorem dL_605 : decode code 605 = .ok (.iadd, 1) := by decide +kernel
theorem dL_606 : decode code 606 = .ok (.iaload, 1) := by decide +kernel
theorem dL_607 : decode code 607 = .ok (.invokevirtual 83, 3) := by decide +kernel
theorem dL_610 : decode code 610 = .ok (.if_icmp .eq 1066, 3) := by decide +kernel
theorem dL_615 : decode code 615 = .ok (.aload_n 1, 1) := by decide +kernel
theorem dL_616 : decode code 616 = .ok (.aload_n 0, 1) := by decide +kernel
theorem dL_617 : decode code 617 = .ok (.iload_n 3, 1) := by decide +kernel
theorem dL_618 : decode code 618 = .ok (.iconst 1, 1) := by decide +kernel
theorem dL_619 : decode code 619 = .ok (.iadd, 1) := by decide +kernel
theorem dL_620 : decode code 620 = .ok (.iaload, 1) := by decide +kernel
theorem dL_621 : decode code 621 = .ok (.invokevirtual 84, 3) := by decide +kernel
theorem dL_624 : decode code 624 = .ok (.aload_n 2, 1) := by decide +kernel
theorem dL_625 : decode code 625 = .ok (.aload_n 0, 1) := by decide +kernel
theorem dL_626 : decode code 626 = .ok (.iload_n 3, 1) := by decide +kernel
theorem dL_627 : decode code 627 = .ok (.iconst 1, 1) := by decide +kernel
theorem dL_628 : decode code 628 = .ok (.iadd, 1) := by decide +kernel
theorem dL_629 : decode code 629 = .ok (.iaload, 1) := by decide +kernel
theorem dL_630 : decode code 630 = .ok (.invokevirtual 87, 3) := by decide +kernel
theorem dL_633 : decode code 633 = .ok (.if_icmp .eq 1043, 3) := by decide +kernel
theorem dL_638 : decode code 638 = .ok (.aload_n 1, 1) := by decide +kernel
theorem dL_639 : decode code 639 = .ok (.aload_n 0, 1) := by decide +kernel
theorem dL_640 : decode code 640 = .ok (.iload_n 3, 1) := by decide +kernel
theorem dL_641 : decode code 641 = .ok (.iconst 1, 1) := by decide +kernel
theorem dL_642 : decode code 642 = .ok (.iadd, 1) := by decide +kernel
theorem dL_643 : decode code 643 = .ok (.iaload, 1) := by decide +kernel
theorem dL_644 : decode code 644 = .ok (.invokevirtual 88, 3) := by decide +kernel
theorem dL_647 : decode code 647 = .ok (.aload_n 2, 1) := by decide +kernel
theorem dL_648 : decode code 648 = .ok (.aload_n 0, 1) := by decide +kernel
theorem dL_649 : decode code 649 = .ok (.iload_n 3, 1) := by decide +kernel
theorem dL_650 : decode code 650 = .ok (.iconst 1, 1) := by decide +kernel
theorem dL_651 : decode code 651 = .ok (.iadd, 1) := by decide +kernel
theorem dL_652 : decode code 652 = .ok (.iaload, 1) := by decide +kernel
theorem dL_653 : decode code 653 = .ok (.invokevirtual 91, 3) := by decide +kernel
theorem dL_656 : decode code 656 = .ok (.if_icmp .eq 1020, 3) := by decide +kernel
theorem dL_661 : decode code 661 = .ok (.aload_n 1, 1) := by decide +kernel
theorem dL_662 : decode code 662 = .ok (.aload_n 0, 1) := by decide +kernel
theorem dL_663 : decode code 663 = .ok (.iload_n 3, 1) := by decide +kernel
theorem dL_664 : decode code 664 = .ok (.iconst 1, 1) := by decide +kernel
theorem dL_665 : decode code 665 = .ok (.iadd, 1) := by decide +kernel
theorem dL_666 : decode code 666 = .ok (.iaload, 1) := by decide +kernel
theorem dL_667 : decode code 667 = .ok (.invokevirtual 92, 3) := by decide +kernel
theorem dL_670 : decode code 670 = .ok (.aload_n 2, 1) := by decide +kernel
theorem dL_671 : decode code 671 = .ok (.aload_n 0, 1) := by decide +kernel
theorem dL_672 : decode code 672 = .ok (.iload_n 3, 1) := by decide +kernel
theorem dL_673 : decode code 673 = .ok (.iconst 1, 1) := by decide +kernel
theorem dL_674 : decode code 674 = .ok (.iadd, 1) := by decide +kernel
theorem dL_675 : decode code 675 = .ok (.iaload, 1) := by decide +kernel
theorem dL_676 : decode code 676 = .ok (.invokevirtual 95, 3) := by decide +kernel
theorem dL_679 : decode code 679 = .ok (.if_icmp .eq 997, 3) := by decide +kernel
theorem dL_684 : decode code 684 = .ok (.aload_n 1, 1) := by decide +kernel
theorem dL_685 : decode code 685 = .ok (.aload_n 0, 1) := by decide +kernel
theorem dL_686 : decode code 686 = .ok (.iload_n 3, 1) := by decide +kernel
theorem dL_687 : decode code 687 = .ok (.iconst 1, 1) := by decide +kernel
theorem dL_688 : decode code 688 = .ok (.iadd, 1) := by decide +kernel
theorem dL_689 : decode code 689 = .ok (.iaload, 1) := by decide +kernel
theorem dL_690 : decode code 690 = .ok (.invokevirtual 96, 3) := by decide +kernel
theorem dL_693 : decode code 693 = .ok (.aload_n 2, 1) := by decide +kernel
theorem dL_694 : decode code 694 = .ok (.aload_n 0, 1) := by decide +kernel
theorem dL_695 : decode code 695 = .ok (.iload_n 3, 1) := by decide +kernel
theorem dL_696 : decode code 696 = .ok (.iconst 1, 1) := by decide +kernel
theorem dL_697 : decode code 697 = .ok (.iadd, 1) := by decide +kernel
theorem dL_698 : decode code 698 = .ok (.iaload, 1) := by decide +kernel
theorem dL_699 : decode code 699 = .ok (.invokevirtual 99, 3) := by decide +kernel
theorem dL_702 : decode code 702 = .ok (.if_icmp .eq 974, 3) := by decide +kernel
theorem dL_707 : decode code 707 = .ok (.aload_n 1, 1) := by decide +kernel
theorem dL_708 : decode code 708 = .ok (.aload_n 0, 1) := by decide +kernel
theorem dL_709 : decode code 709 = .ok (.iload_n 3, 1) := by decide +kernel
theorem dL_710 : decode code 710 = .ok (.iconst 1, 1) := by decide +kernel
theorem dL_711 : decode code 711 = .ok (.iadd, 1) := by decide +kernel
theorem dL_712 : decode code 712 = .ok (.iaload, 1) := by decide +kernel
theorem dL_713 : decode code 713 = .ok (.invokevirtual 100, 3) := by decide +kernel
theorem dL_716 : decode code 716 = .ok (.aload_n 2, 1) := by decide +kernel
theorem dL_717 : decode code 717 = .ok (.aload_n 0, 1) := by decide +kernel
theorem dL_718 : decode code 718 = .ok (.iload_n 3, 1) := by decide +kernel
theorem dL_719 : decode code 719 = .ok (.iconst 1, 1) := by decide +kernel
theorem dL_720 : decode code 720 = .ok (.iadd, 1) := by decide +kernel
theorem dL_721 : decode code 721 = .ok (.iaload, 1) := by decide +kernel
theorem dL_722 : decode code 722 = .ok (.invokevirtual 103, 3) := by decide +kernel
theorem dL_725 : decode code 725 = .ok (.if_icmp .eq 951, 3) := by decide +kernel
theorem dL_730 : decode code 730 = .ok (.aload_n 1, 1) := by decide +kernel
theorem dL_731 : decode code 731 = .ok (.aload_n 0, 1) := by decide +kernel
theorem dL_732 : decode code 732 = .ok (.iload_n 3, 1) := by decide +kernel
theorem dL_733 : decode code 733 = .ok (.iconst 1, 1) := by decide +kernel
theorem dL_734 : decode code 734 = .ok (.iadd, 1) := by decide +kernel
theorem dL_735 : decode code 735 = .ok (.iaload, 1) := by decide +kernel
theorem dL_736 : decode code 736 = .ok (.invokevirtual 104, 3) := by decide +kernel
theorem dL_739 : decode code 739 = .ok (.aload_n 2, 1) := by decide +kernel
theorem dL_740 : decode code 740 = .ok (.aload_n 0, 1) := by decide +kernel
theorem dL_741 : decode code 741 = .ok (.iload_n 3, 1) := by decide +kernel
theorem dL_742 : decode code 742 = .ok (.iconst 1, 1) := by decide +kernel
theorem dL_743 : decode code 743 = .ok (.iadd, 1) := by decide +kernel
theorem dL_744 : decode code 744 = .ok (.iaload, 1) := by decide +kernel
theorem dL_745 : decode code 745 = .ok (.invokevirtual 107, 3) := by decide +kernel
theorem dL_748 : decode code 748 = .ok (.if_icmp .eq 928, 3) := by decide +kernel
theorem dL_753 : decode code 753 = .ok (.aload_n 1, 1) := by decide +kernel
theorem dL_754 : decode code 754 = .ok (.aload_n 0, 1) := by decide +kernel
theorem dL_755 : decode code 755 = .ok (.iload_n 3, 1) := by decide +kernel
theorem dL_756 : decode code 756 = .ok (.iconst 1, 1) := by decide +kernel
theorem dL_757 : decode code 757 = .ok (.iadd, 1) := by decide +kernel
theorem dL_758 : decode code 758 = .ok (.iaload, 1) := by decide +kernel
theorem dL_759 : decode code 759 = .ok (.invokevirtual 108, 3) := by decide +kernel
theorem dL_762 : decode code 762 = .ok (.aload_n 2, 1) := by decide +kernel
theorem dL_763 : decode code 763 = .ok (.aload_n 0, 1) := by decide +kernel
theorem dL_764 : decode code 764 = .ok (.iload_n 3, 1) := by decide +kernel
theorem dL_765 : decode code 765 = .ok (.iconst 1, 1) := by decide +kernel
theorem dL_766 : decode code 766 = .ok (.iadd, 1) := by decide +kernel
theorem dL_767 : decode code 767 = .ok (.iaload, 1) := by decide +kernel
theorem dL_768 : decode code 768 = .ok (.invokevirtual 111, 3) := by decide +kernel
theorem dL_771 : decode code 771 = .ok (.if_icmp .eq 905, 3) := by decide +kernel
theorem dL_776 : decode code 776 = .ok (.aload_n 1, 1) := by decide +kernel
theorem dL_777 : decode code 777 = .ok (.aload_n 0, 1) := by decide +kernel
theorem dL_778 : decode code 778 = .ok (.iload_n 3, 1) := by decide +kernel
theorem dL_779 : decode code 779 = .ok (.iconst 1, 1) := by decide +kernel
theorem dL_780 : decode code 780 = .ok (.iadd, 1) := by decide +kernel
theorem dL_781 : decode code 781 = .ok (.iaload, 1) := by decide +kernel
theorem dL_782 : decode code 782 = .ok (.aload_n 0, 1) := by decide +kernel
theorem dL_783 : decode code 783 = .ok (.iload_n 3, 1) := by decide +kernel
theorem dL_784 : decode code 784 = .ok (.iconst 2, 1) := by decide +kernel
theorem dL_785 : decode code 785 = .ok (.iadd, 1) := by decide +kernel
theorem dL_786 : decode code 786 = .ok (.iaload, 1) := by decide +kernel
theorem dL_787 : decode code 787 = .ok (.invokevirtual 112, 3) := by decide +kernel
theorem dL_790 : decode code 790 = .ok (.aload_n 2, 1) := by decide +kernel
theorem dL_791 : decode code 791 = .ok (.aload_n 0, 1) := by decide +kernel
theorem dL_792 : decode code 792 = .ok (.iload_n 3, 1) := by decide +kernel
theorem dL_793 : decode code 793 = .ok (.iconst 1, 1) := by decide +kernel
theorem dL_794 : decode code 794 = .ok (.iadd, 1) := by decide +kernel
theorem dL_795 : decode code 795 = .ok (.iaload, 1) := by decide +kernel
theorem dL_796 : decode code 796 = .ok (.aload_n 0, 1) := by decide +kernel
theorem dL_797 : decode code 797 = .ok (.iload_n 3, 1) := by decide +kernel
theorem dL_798 : decode code 798 = .ok (.iconst 2, 1) := by decide +kernel
theorem dL_799 : decode code 799 = .ok (.iadd, 1) := by decide +kernel
theorem dL_800 : decode code 800 = .ok (.iaload, 1) := by decide +kernel
theorem dL_801 : decode code 801 = .ok (.invokevirtual 116, 3) := by decide +kernel
theorem dL_804 : decode code 804 = .ok (.if_icmp .eq 872, 3) := by decide +kernel
theorem dL_809 : decode code 809 = .ok (.aload_n 1, 1) := by decide +kernel
theorem dL_810 : decode code 810 = .ok (.aload_n 0, 1) := by decide +kernel
theorem dL_811 : decode code 811 = .ok (.iload_n 3, 1) := by decide +kernel
theorem dL_812 : decode code 812 = .ok (.iconst 1, 1) := by decide +kernel
theorem dL_813 : decode code 813 = .ok (.iadd, 1) := by decide +kernel
theorem dL_814 : decode code 814 = .ok (.iaload, 1) := by decide +kernel
theorem dL_815 : decode code 815 = .ok (.invokevirtual 117, 3) := by decide +kernel
theorem dL_818 : decode code 818 = .ok (.aload_n 2, 1) := by decide +kernel
theorem dL_819 : decode code 819 = .ok (.aload_n 0, 1) := by decide +kernel
theorem dL_820 : decode code 820 = .ok (.iload_n 3, 1) := by decide +kernel
theorem dL_821 : decode code 821 = .ok (.iconst 1, 1) := by decide +kernel
theorem dL_822 : decode code 822 = .ok (.iadd, 1) := by decide +kernel
theorem dL_823 : decode code 823 = .ok (.iaload, 1) := by decide +kernel
theorem dL_824 : decode code 824 = .ok (.invokevirtual 120, 3) := by decide +kernel
theorem dL_827 : decode code 827 = .ok (.if_icmp .eq 849, 3) := by decide +kernel
theorem dL_832 : decode code 832 = .ok (.aload_n 1, 1) := by decide +kernel
theorem dL_833 : decode code 833 = .ok (.aload_n 0, 1) := by decide +kernel
theorem dL_834 : decode code 834 = .ok (.iload_n 3, 1) := by decide +kernel
theorem dL_835 : decode code 835 = .ok (.iconst 1, 1) := by decide +kernel
theorem dL_836 : decode code 836 = .ok (.iadd, 1) := by decide +kernel
theorem dL_837 : decode code 837 = .ok (.iaload, 1) := by decide +kernel
theorem dL_838 : decode code 838 = .ok (.invokevirtual 121, 3) := by decide +kernel
theorem dL_841 : decode code 841 = .ok (.aload_n 2, 1) := by decide +kernel
theorem dL_842 : decode code 842 = .ok (.aload_n 0, 1) := by decide +kernel
theorem dL_843 : decode code 843 = .ok (.iload_n 3, 1) := by decide +kernel
theorem dL_844 : decode code 844 = .ok (.iconst 1, 1) := by decide +kernel
theorem dL_845 : decode code 845 = .ok (.iadd, 1) := by decide +kernel
theorem dL_846 : decode code 846 = .ok (.iaload, 1) := by decide +kernel
theorem dL_847 : decode code 847 = .ok (.invokevirtual 124, 3) := by decide +kernel
theorem dL_850 : decode code 850 = .ok (.if_icmp .eq 826, 3) := by decide +kernel
theorem dL_855 : decode code 855 = .ok (.aload_n 1, 1) := by decide +kernel
theorem dL_856 : decode code 856 = .ok (.aload_n 0, 1) := by decide +kernel
theorem dL_857 : decode code 857 = .ok (.iload_n 3, 1) := by decide +kernel
theorem dL_858 : decode code 858 = .ok (.iconst 1, 1) := by decide +kernel
theorem dL_859 : decode code 859 = .ok (.iadd, 1) := by decide +kernel
theorem dL_860 : decode code 860 = .ok (.iaload, 1) := by decide +kernel
theorem dL_861 : decode code 861 = .ok (.invokevirtual 125, 3) := by decide +kernel
theorem dL_864 : decode code 864 = .ok (.aload_n 2, 1) := by decide +kernel
theorem dL_865 : decode code 865 = .ok (.aload_n 0, 1) := by decide +kernel
theorem dL_866 : decode code 866 = .ok (.iload_n 3, 1) := by decide +kernel
theorem dL_867 : decode code 867 = .ok (.iconst 1, 1) := by decide +kernel
theorem dL_868 : decode code 868 = .ok (.iadd, 1) := by decide +kernel
theorem dL_869 : decode code 869 = .ok (.iaload, 1) := by decide +kernel
theorem dL_870 : decode code 870 = .ok (.invokevirtual 128, 3) := by decide +kernel
theorem dL_873 : decode code 873 = .ok (.if_icmp .eq 803, 3) := by decide +kernel
theorem dL_878 : decode code 878 = .ok (.aload_n 1, 1) := by decide +kernel
theorem dL_879 : decode code 879 = .ok (.invokevirtual 129, 3) := by decide +kernel
theorem dL_882 : decode code 882 = .ok (.aload_n 2, 1) := by decide +kernel
theorem dL_883 : decode code 883 = .ok (.invokevirtual 132, 3) := by decide +kernel
theorem dL_886 : decode code 886 = .ok (.if_icmp .eq 790, 3) := by decide +kernel
theorem dL_891 : decode code 891 = .ok (.aload_n 1, 1) := by decide +kernel
theorem dL_892 : decode code 892 = .ok (.aload_n 0, 1) := by decide +kernel
theorem dL_893 : decode code 893 = .ok (.iload_n 3, 1) := by decide +kernel
theorem dL_894 : decode code 894 = .ok (.iconst 1, 1) := by decide +kernel
theorem dL_895 : decode code 895 = .ok (.iadd, 1) := by decide +kernel
theorem dL_896 : decode code 896 = .ok (.iaload, 1) := by decide +kernel
theorem dL_897 : decode code 897 = .ok (.aload_n 0, 1) := by decide +kernel
theorem dL_898 : decode code 898 = .ok (.iload_n 3, 1) := by decide +kernel
theorem dL_899 : decode code 899 = .ok (.iconst 2, 1) := by decide +kernel
theorem dL_900 : decode code 900 = .ok (.iadd, 1) := by decide +kernel
theorem dL_901 : decode code 901 = .ok (.iaload, 1) := by decide +kernel
theorem dL_902 : decode code 902 = .ok (.invokevirtual 133, 3) := by decide +kernel
theorem dL_905 : decode code 905 = .ok (.aload_n 2, 1) := by decide +kernel
theorem dL_906 : decode code 906 = .ok (.aload_n 0, 1) := by decide +kernel
theorem dL_907 : decode code 907 = .ok (.iload_n 3, 1) := by decide +kernel
theorem dL_908 : decode code 908 = .ok (.iconst 1, 1) := by decide +kernel
theorem dL_909 : decode code 909 = .ok (.iadd, 1) := by decide +kernel
theorem dL_910 : decode code 910 = .ok (.iaload, 1) := by decide +kernel
theorem dL_911 : decode code 911 = .ok (.aload_n 0, 1) := by decide +kernel
theorem dL_912 : decode code 912 = .ok (.iload_n 3, 1) := by decide +kernel
theorem dL_913 : decode code 913 = .ok (.iconst 2, 1) := by decide +kernel
theorem dL_914 : decode code 914 = .ok (.iadd, 1) := by decide +kernel
theorem dL_915 : decode code 915 = .ok (.iaload, 1) := by decide +kernel
theorem dL_916 : decode code 916 = .ok (.invokevirtual 136, 3) := by decide +kernel
theorem dL_919 : decode code 919 = .ok (.if_icmp .eq 757, 3) := by decide +kernel
theorem dL_924 : decode code 924 = .ok (.aload_n 1, 1) := by decide +kernel
theorem dL_925 : decode code 925 = .ok (.aload_n 0, 1) := by decide +kernel
theorem dL_926 : decode code 926 = .ok (.iload_n 3, 1) := by decide +kernel
theorem dL_927 : decode code 927 = .ok (.iconst 1, 1) := by decide +kernel
theorem dL_928 : decode code 928 = .ok (.iadd, 1) := by decide +kernel
theorem dL_929 : decode code 929 = .ok (.iaload, 1) := by decide +kernel
theorem dL_930 : decode code 930 = .ok (.invokevirtual 137, 3) := by decide +kernel
theorem dL_933 : decode code 933 = .ok (.aload_n 2, 1) := by decide +kernel
theorem dL_934 : decode code 934 = .ok (.aload_n 0, 1) := by decide +kernel
theorem dL_935 : decode code 935 = .ok (.iload_n 3, 1) := by decide +kernel
theorem dL_936 : decode code 936 = .ok (.iconst 1, 1) := by decide +kernel
theorem dL_937 : decode code 937 = .ok (.iadd, 1) := by decide +kernel
theorem dL_938 : decode code 938 = .ok (.iaload, 1) := by decide +kernel
theorem dL_939 : decode code 939 = .ok (.invokevirtual 140, 3) := by decide +kernel
theorem dL_942 : decode code 942 = .ok (.if_icmp .eq 734, 3) := by decide +kernel
theorem dL_947 : decode code 947 = .ok (.aload_n 1, 1) := by decide +kernel
theorem dL_948 : decode code 948 = .ok (.invokevirtual 141, 3) := by decide +kernel
theorem dL_951 : decode code 951 = .ok (.aload_n 2, 1) := by decide +kernel
theorem dL_952 : decode code 952 = .ok (.invokevirtual 144, 3) := by decide +kernel
theorem dL_955 : decode code 955 = .ok (.if_icmp .eq 721, 3) := by decide +kernel
theorem dL_960 : decode code 960 = .ok (.aload_n 1, 1) := by decide +kernel
theorem dL_961 : decode code 961 = .ok (.aload_n 0, 1) := by decide +kernel
theorem dL_962 : decode code 962 = .ok (.iload_n 3, 1) := by decide +kernel
theorem dL_963 : decode code 963 = .ok (.iconst 1, 1) := by decide +kernel
theorem dL_964 : decode code 964 = .ok (.iadd, 1) := by decide +kernel
theorem dL_965 : decode code 965 = .ok (.iaload, 1) := by decide +kernel
theorem dL_966 : decode code 966 = .ok (.aload_n 0, 1) := by decide +kernel
theorem dL_967 : decode code 967 = .ok (.iload_n 3, 1) := by decide +kernel
theorem dL_968 : decode code 968 = .ok (.iconst 2, 1) := by decide +kernel
theorem dL_969 : decode code 969 = .ok (.iadd, 1) := by decide +kernel
theorem dL_970 : decode code 970 = .ok (.iaload, 1) := by decide +kernel
theorem dL_971 : decode code 971 = .ok (.invokevirtual 145, 3) := by decide +kernel
theorem dL_974 : decode code 974 = .ok (.aload_n 2, 1) := by decide +kernel
theorem dL_975 : decode code 975 = .ok (.aload_n 0, 1) := by decide +kernel
theorem dL_976 : decode code 976 = .ok (.iload_n 3, 1) := by decide +kernel
theorem dL_977 : decode code 977 = .ok (.iconst 1, 1) := by decide +kernel
theorem dL_978 : decode code 978 = .ok (.iadd, 1) := by decide +kernel
theorem dL_979 : decode code 979 = .ok (.iaload, 1) := by decide +kernel
theorem dL_980 : decode code 980 = .ok (.aload_n 0, 1) := by decide +kernel
theorem dL_981 : decode code 981 = .ok (.iload_n 3, 1) := by decide +kernel
theorem dL_982 : decode code 982 = .ok (.iconst 2, 1) := by decide +kernel
theorem dL_983 : decode code 983 = .ok (.iadd, 1) := by decide +kernel
theorem dL_984 : decode code 984 = .ok (.iaload, 1) := by decide +kernel
theorem dL_985 : decode code 985 = .ok (.invokevirtual 148, 3) := by decide +kernel
theorem dL_988 : decode code 988 = .ok (.if_icmp .eq 688, 3) := by decide +kernel
theorem dL_993 : decode code 993 = .ok (.aload_n 1, 1) := by decide +kernel
theorem dL_994 : decode code 994 = .ok (.aload_n 0, 1) := by decide +kernel
theorem dL_995 : decode code 995 = .ok (.iload_n 3, 1) := by decide +kernel
theorem dL_996 : decode code 996 = .ok (.iconst 1, 1) := by decide +kernel
theorem dL_997 : decode code 997 = .ok (.iadd, 1) := by decide +kernel
theorem dL_998 : decode code 998 = .ok (.iaload, 1) := by decide +kernel
theorem dL_999 : decode code 999 = .ok (.aload_n 0, 1) := by decide +kernel
theorem dL_1000 : decode code 1000 = .ok (.iload_n 3, 1) := by decide +kernel
theorem dL_1001 : decode code 1001 = .ok (.iconst 2, 1) := by decide +kernel
theorem dL_1002 : decode code 1002 = .ok (.iadd, 1) := by decide +kernel
theorem dL_1003 : decode code 1003 = .ok (.iaload, 1) := by decide +kernel
theorem dL_1004 : decode code 1004 = .ok (.invokevirtual 149, 3) := by decide +kernel
theorem dL_1007 : decode code 1007 = .ok (.aload_n 2, 1) := by decide +kernel
theorem dL_1008 : decode code 1008 = .ok (.aload_n 0, 1) := by decide +kernel
theorem dL_1009 : decode code 1009 = .ok (.iload_n 3, 1) := by decide +kernel
theorem dL_1010 : decode code 1010 = .ok (.iconst 1, 1) := by decide +kernel
theorem dL_1011 : decode code 1011 = .ok (.iadd, 1) := by decide +kernel
theorem dL_1012 : decode code 1012 = .ok (.iaload, 1) := by decide +kernel
theorem dL_1013 : decode code 1013 = .ok (.aload_n 0, 1) := by decide +kernel
theorem dL_1014 : decode code 1014 = .ok (.iload_n 3, 1) := by decide +kernel
theorem dL_1015 : decode code 1015 = .ok (.iconst 2, 1) := by decide +kernel
theorem dL_1016 : decode code 1016 = .ok (.iadd, 1) := by decide +kernel
theorem dL_1017 : decode code 1017 = .ok (.iaload, 1) := by decide +kernel
theorem dL_1018 : decode code 1018 = .ok (.invokevirtual 152, 3) := by decide +kernel
theorem dL_1021 : decode code 1021 = .ok (.if_icmp .eq 655, 3) := by decide +kernel
theorem dL_1026 : decode code 1026 = .ok (.aload_n 1, 1) := by decide +kernel
theorem dL_1027 : decode code 1027 = .ok (.aload_n 0, 1) := by decide +kernel
theorem dL_1028 : decode code 1028 = .ok (.iload_n 3, 1) := by decide +kernel
theorem dL_1029 : decode code 1029 = .ok (.iconst 1, 1) := by decide +kernel
theorem dL_1030 : decode code 1030 = .ok (.iadd, 1) := by decide +kernel
theorem dL_1031 : decode code 1031 = .ok (.iaload, 1) := by decide +kernel
theorem dL_1032 : decode code 1032 = .ok (.invokevirtual 153, 3) := by decide +kernel
theorem dL_1035 : decode code 1035 = .ok (.aload_n 2, 1) := by decide +kernel
theorem dL_1036 : decode code 1036 = .ok (.aload_n 0, 1) := by decide +kernel
theorem dL_1037 : decode code 1037 = .ok (.iload_n 3, 1) := by decide +kernel
theorem dL_1038 : decode code 1038 = .ok (.iconst 1, 1) := by decide +kernel
theorem dL_1039 : decode code 1039 = .ok (.iadd, 1) := by decide +kernel
theorem dL_1040 : decode code 1040 = .ok (.iaload, 1) := by decide +kernel
theorem dL_1041 : decode code 1041 = .ok (.invokevirtual 156, 3) := by decide +kernel
theorem dL_1044 : decode code 1044 = .ok (.if_icmp .eq 632, 3) := by decide +kernel
theorem dL_1049 : decode code 1049 = .ok (.aload_n 1, 1) := by decide +kernel
theorem dL_1050 : decode code 1050 = .ok (.aload_n 0, 1) := by decide +kernel
theorem dL_1051 : decode code 1051 = .ok (.iload_n 3, 1) := by decide +kernel
theorem dL_1052 : decode code 1052 = .ok (.iconst 1, 1) := by decide +kernel
theorem dL_1053 : decode code 1053 = .ok (.iadd, 1) := by decide +kernel
theorem dL_1054 : decode code 1054 = .ok (.iaload, 1) := by decide +kernel
theorem dL_1055 : decode code 1055 = .ok (.aload_n 0, 1) := by decide +kernel
theorem dL_1056 : decode code 1056 = .ok (.iload_n 3, 1) := by decide +kernel
theorem dL_1057 : decode code 1057 = .ok (.iconst 2, 1) := by decide +kernel
theorem dL_1058 : decode code 1058 = .ok (.iadd, 1) := by decide +kernel
theorem dL_1059 : decode code 1059 = .ok (.iaload, 1) := by decide +kernel
theorem dL_1060 : decode code 1060 = .ok (.invokevirtual 157, 3) := by decide +kernel
theorem dL_1063 : decode code 1063 = .ok (.aload_n 2, 1) := by decide +kernel
theorem dL_1064 : decode code 1064 = .ok (.aload_n 0, 1) := by decide +kernel
theorem dL_1065 : decode code 1065 = .ok (.iload_n 3, 1) := by decide +kernel
theorem dL_1066 : decode code 1066 = .ok (.iconst 1, 1) := by decide +kernel
theorem dL_1067 : decode code 1067 = .ok (.iadd, 1) := by decide +kernel
theorem dL_1068 : decode code 1068 = .ok (.iaload, 1) := by decide +kernel
theorem dL_1069 : decode code 1069 = .ok (.aload_n 0, 1) := by decide +kernel
theorem dL_1070 : decode code 1070 = .ok (.iload_n 3, 1) := by decide +kernel
theorem dL_1071 : decode code 1071 = .ok (.iconst 2, 1) := by decide +kernel
theorem dL_1072 : decode code 1072 = .ok (.iadd, 1) := by decide +kernel
theorem dL_1073 : decode code 1073 = .ok (.iaload, 1) := by decide +kernel
theorem dL_1074 : decode code 1074 = .ok (.invokevirtual 160, 3) := by decide +kernel
theorem dL_1077 : decode code 1077 = .ok (.if_icmp .eq 599, 3) := by decide +kernel
theorem dL_1082 : decode code 1082 = .ok (.aload_n 1, 1) := by decide +kernel
theorem dL_1083 : decode code 1083 = .ok (.aload_n 0, 1) := by decide +kernel
theorem dL_1084 : decode code 1084 = .ok (.iload_n 3, 1) := by decide +kernel
theorem dL_1085 : decode code 1085 = .ok (.iconst 1, 1) := by decide +kernel
theorem dL_1086 : decode code 1086 = .ok (.iadd, 1) := by decide +kernel
theorem dL_1087 : decode code 1087 = .ok (.iaload, 1) := by decide +kernel
theorem dL_1088 : decode code 1088 = .ok (.aload_n 0, 1) := by decide +kernel
theorem dL_1089 : decode code 1089 = .ok (.iload_n 3, 1) := by decide +kernel
theorem dL_1090 : decode code 1090 = .ok (.iconst 2, 1) := by decide +kernel
theorem dL_1091 : decode code 1091 = .ok (.iadd, 1) := by decide +kernel
theorem dL_1092 : decode code 1092 = .ok (.iaload, 1) := by decide +kernel
theorem dL_1093 : decode code 1093 = .ok (.invokevirtual 161, 3) := by decide +kernel
theorem dL_1096 : decode code 1096 = .ok (.aload_n 2, 1) := by decide +kernel
theorem dL_1097 : decode code 1097 = .ok (.aload_n 0, 1) := by decide +kernel
theorem dL_1098 : decode code 1098 = .ok (.iload_n 3, 1) := by decide +kernel
theorem dL_1099 : decode code 1099 = .ok (.iconst 1, 1) := by decide +kernel
theorem dL_1100 : decode code 1100 = .ok (.iadd, 1) := by decide +kernel
theorem dL_1101 : decode code 1101 = .ok (.iaload, 1) := by decide +kernel
theorem dL_1102 : decode code 1102 = .ok (.aload_n 0, 1) := by decide +kernel
theorem dL_1103 : decode code 1103 = .ok (.iload_n 3, 1) := by decide +kernel
theorem dL_1104 : decode code 1104 = .ok (.iconst 2, 1) := by decide +kernel
theorem dL_1105 : decode code 1105 = .ok (.iadd, 1) := by decide +kernel
theorem dL_1106 : decode code 1106 = .ok (.iaload, 1) := by decide +kernel
theorem dL_1107 : decode code 1107 = .ok (.invokevirtual 164, 3) := by decide +kernel
theorem dL_1110 : decode code 1110 = .ok (.if_icmp .eq 566, 3) := by decide +kernel
theorem dL_1115 : decode code 1115 = .ok (.aload_n 1, 1) := by decide +kernel
theorem dL_1116 : decode code 1116 = .ok (.aload_n 0, 1) := by decide +kernel
theorem dL_1117 : decode code 1117 = .ok (.iload_n 3, 1) := by decide +kernel
theorem dL_1118 : decode code 1118 = .ok (.iconst 1, 1) := by decide +kernel
theorem dL_1119 : decode code 1119 = .ok (.iadd, 1) := by decide +kernel
theorem dL_1120 : decode code 1120 = .ok (.iaload, 1) := by decide +kernel
theorem dL_1121 : decode code 1121 = .ok (.invokevirtual 165, 3) := by decide +kernel
theorem dL_1124 : decode code 1124 = .ok (.aload_n 2, 1) := by decide +kernel
theorem dL_1125 : decode code 1125 = .ok (.aload_n 0, 1) := by decide +kernel
theorem dL_1126 : decode code 1126 = .ok (.iload_n 3, 1) := by decide +kernel
theorem dL_1127 : decode code 1127 = .ok (.iconst 1, 1) := by decide +kernel
theorem dL_1128 : decode code 1128 = .ok (.iadd, 1) := by decide +kernel
theorem dL_1129 : decode code 1129 = .ok (.iaload, 1) := by decide +kernel
theorem dL_1130 : decode code 1130 = .ok (.invokevirtual 168, 3) := by decide +kernel
theorem dL_1133 : decode code 1133 = .ok (.if_icmp .eq 543, 3) := by decide +kernel
theorem dL_1138 : decode code 1138 = .ok (.aload_n 1, 1) := by decide +kernel
theorem dL_1139 : decode code 1139 = .ok (.aload_n 0, 1) := by decide +kernel
theorem dL_1140 : decode code 1140 = .ok (.iload_n 3, 1) := by decide +kernel
theorem dL_1141 : decode code 1141 = .ok (.iconst 1, 1) := by decide +kernel
theorem dL_1142 : decode code 1142 = .ok (.iadd, 1) := by decide +kernel
theorem dL_1143 : decode code 1143 = .ok (.iaload, 1) := by decide +kernel
theorem dL_1144 : decode code 1144 = .ok (.invokevirtual 169, 3) := by decide +kernel
theorem dL_1147 : decode code 1147 = .ok (.aload_n 2, 1) := by decide +kernel
theorem dL_1148 : decode code 1148 = .ok (.aload_n 0, 1) := by decide +kernel
theorem dL_1149 : decode code 1149 = .ok (.iload_n 3, 1) := by decide +kernel
theorem dL_1150 : decode code 1150 = .ok (.iconst 1, 1) := by decide +kernel
theorem dL_1151 : decode code 1151 = .ok (.iadd, 1) := by decide +kernel
theorem dL_1152 : decode code 1152 = .ok (.iaload, 1) := by decide +kernel
theorem dL_1153 : decode code 1153 = .ok (.invokevirtual 172, 3) := by decide +kernel
theorem dL_1156 : decode code 1156 = .ok (.if_icmp .eq 520, 3) := by decide +kernel
theorem dL_1161 : decode code 1161 = .ok (.aload_n 1, 1) := by decide +kernel
theorem dL_1162 : decode code 1162 = .ok (.invokevirtual 173, 3) := by decide +kernel
theorem dL_1165 : decode code 1165 = .ok (.aload_n 2, 1) := by decide +kernel
theorem dL_1166 : decode code 1166 = .ok (.invokevirtual 176, 3) := by decide +kernel
theorem dL_1169 : decode code 1169 = .ok (.if_icmp .eq 507, 3) := by decide +kernel
theorem dL_1174 : decode code 1174 = .ok (.aload_n 1, 1) := by decide +kernel
theorem dL_1175 : decode code 1175 = .ok (.invokevirtual 177, 3) := by decide +kernel
theorem dL_1178 : decode code 1178 = .ok (.aload_n 2, 1) := by decide +kernel
theorem dL_1179 : decode code 1179 = .ok (.invokevirtual 180, 3) := by decide +kernel
theorem dL_1182 : decode code 1182 = .ok (.if_icmp .eq 494, 3) := by decide +kernel
theorem dL_1187 : decode code 1187 = .ok (.aload_n 1, 1) := by decide +kernel
theorem dL_1188 : decode code 1188 = .ok (.aload_n 0, 1) := by decide +kernel
theorem dL_1189 : decode code 1189 = .ok (.iload_n 3, 1) := by decide +kernel
theorem dL_1190 : decode code 1190 = .ok (.iconst 1, 1) := by decide +kernel
theorem dL_1191 : decode code 1191 = .ok (.iadd, 1) := by decide +kernel
theorem dL_1192 : decode code 1192 = .ok (.iaload, 1) := by decide +kernel
theorem dL_1193 : decode code 1193 = .ok (.invokevirtual 181, 3) := by decide +kernel
theorem dL_1196 : decode code 1196 = .ok (.aload_n 2, 1) := by decide +kernel
theorem dL_1197 : decode code 1197 = .ok (.aload_n 0, 1) := by decide +kernel
theorem dL_1198 : decode code 1198 = .ok (.iload_n 3, 1) := by decide +kernel
theorem dL_1199 : decode code 1199 = .ok (.iconst 1, 1) := by decide +kernel
theorem dL_1200 : decode code 1200 = .ok (.iadd, 1) := by decide +kernel
theorem dL_1201 : decode code 1201 = .ok (.iaload, 1) := by decide +kernel
theorem dL_1202 : decode code 1202 = .ok (.invokevirtual 184, 3) := by decide +kernel
theorem dL_1205 : decode code 1205 = .ok (.if_icmp .eq 471, 3) := by decide +kernel
theorem dL_1210 : decode code 1210 = .ok (.aload_n 1, 1) := by decide +kernel
theorem dL_1211 : decode code 1211 = .ok (.aload_n 0, 1) := by decide +kernel
theorem dL_1212 : decode code 1212 = .ok (.iload_n 3, 1) := by decide +kernel
theorem dL_1213 : decode code 1213 = .ok (.iconst 1, 1) := by decide +kernel
theorem dL_1214 : decode code 1214 = .ok (.iadd, 1) := by decide +kernel
theorem dL_1215 : decode code 1215 = .ok (.iaload, 1) := by decide +kernel
theorem dL_1216 : decode code 1216 = .ok (.invokevirtual 185, 3) := by decide +kernel
theorem dL_1219 : decode code 1219 = .ok (.aload_n 2, 1) := by decide +kernel
theorem dL_1220 : decode code 1220 = .ok (.aload_n 0, 1) := by decide +kernel
theorem dL_1221 : decode code 1221 = .ok (.iload_n 3, 1) := by decide +kernel
theorem dL_1222 : decode code 1222 = .ok (.iconst 1, 1) := by decide +kernel
theorem dL_1223 : decode code 1223 = .ok (.iadd, 1) := by decide +kernel
theorem dL_1224 : decode code 1224 = .ok (.iaload, 1) := by decide +kernel
theorem dL_1225 : decode code 1225 = .ok (.invokevirtual 188, 3) := by decide +kernel
theorem dL_1228 : decode code 1228 = .ok (.if_icmp .eq 448, 3) := by decide +kernel
theorem dL_1233 : decode code 1233 = .ok (.aload_n 1, 1) := by decide +kernel
theorem dL_1234 : decode code 1234 = .ok (.aload_n 0, 1) := by decide +kernel
theorem dL_1235 : decode code 1235 = .ok (.iload_n 3, 1) := by decide +kernel
theorem dL_1236 : decode code 1236 = .ok (.iconst 1, 1) := by decide +kernel
theorem dL_1237 : decode code 1237 = .ok (.iadd, 1) := by decide +kernel
theorem dL_1238 : decode code 1238 = .ok (.iaload, 1) := by decide +kernel
theorem dL_1239 : decode code 1239 = .ok (.invokevirtual 189, 3) := by decide +kernel
theorem dL_1242 : decode code 1242 = .ok (.aload_n 2, 1) := by decide +kernel
theorem dL_1243 : decode code 1243 = .ok (.aload_n 0, 1) := by decide +kernel
theorem dL_1244 : decode code 1244 = .ok (.iload_n 3, 1) := by decide +kernel
theorem dL_1245 : decode code 1245 = .ok (.iconst 1, 1) := by decide +kernel
theorem dL_1246 : decode code 1246 = .ok (.iadd, 1) := by decide +kernel
theorem dL_1247 : decode code 1247 = .ok (.iaload, 1) := by decide +kernel
theorem dL_1248 : decode code 1248 = .ok (.invokevirtual 192, 3) := by decide +kernel
theorem dL_1251 : decode code 1251 = .ok (.if_icmp .eq 425, 3) := by decide +kernel
theorem dL_1256 : decode code 1256 = .ok (.aload_n 1, 1) := by decide +kernel
theorem dL_1257 : decode code 1257 = .ok (.invokevirtual 193, 3) := by decide +kernel
theorem dL_1260 : decode code 1260 = .ok (.aload_n 2, 1) := by decide +kernel
theorem dL_1261 : decode code 1261 = .ok (.invokevirtual 196, 3) := by decide +kernel
theorem dL_1264 : decode code 1264 = .ok (.if_icmp .eq 412, 3) := by decide +kernel
theorem dL_1269 : decode code 1269 = .ok (.aload_n 1, 1) := by decide +kernel
theorem dL_1270 : decode code 1270 = .ok (.invokevirtual 197, 3) := by decide +kernel
theorem dL_1273 : decode code 1273 = .ok (.aload_n 2, 1) := by decide +kernel
theorem dL_1274 : decode code 1274 = .ok (.invokevirtual 200, 3) := by decide +kernel
theorem dL_1277 : decode code 1277 = .ok (.if_icmp .eq 399, 3) := by decide +kernel
theorem dL_1282 : decode code 1282 = .ok (.aload_n 1, 1) := by decide +kernel
theorem dL_1283 : decode code 1283 = .ok (.aload_n 0, 1) := by decide +kernel
theorem dL_1284 : decode code 1284 = .ok (.iload_n 3, 1) := by decide +kernel
theorem dL_1285 : decode code 1285 = .ok (.iconst 1, 1) := by decide +kernel
theorem dL_1286 : decode code 1286 = .ok (.iadd, 1) := by decide +kernel
theorem dL_1287 : decode code 1287 = .ok (.iaload, 1) := by decide +kernel
theorem dL_1288 : decode code 1288 = .ok (.invokevirtual 201, 3) := by decide +kernel
theorem dL_1291 : decode code 1291 = .ok (.aload_n 2, 1) := by decide +kernel
theorem dL_1292 : decode code 1292 = .ok (.aload_n 0, 1) := by decide +kernel
theorem dL_1293 : decode code 1293 = .ok (.iload_n 3, 1) := by decide +kernel
theorem dL_1294 : decode code 1294 = .ok (.iconst 1, 1) := by decide +kernel
theorem dL_1295 : decode code 1295 = .ok (.iadd, 1) := by decide +kernel
theorem dL_1296 : decode code 1296 = .ok (.iaload, 1) := by decide +kernel
theorem dL_1297 : decode code 1297 = .ok (.invokevirtual 204, 3) := by decide +kernel
theorem dL_1300 : decode code 1300 = .ok (.if_icmp .eq 376, 3) := by decide +kernel
theorem dL_1305 : decode code 1305 = .ok (.aload_n 1, 1) := by decide +kernel
theorem dL_1306 : decode code 1306 = .ok (.invokevirtual 205, 3) := by decide +kernel
theorem dL_1309 : decode code 1309 = .ok (.aload_n 2, 1) := by decide +kernel
theorem dL_1310 : decode code 1310 = .ok (.invokevirtual 208, 3) := by decide +kernel
theorem dL_1313 : decode code 1313 = .ok (.if_icmp .eq 363, 3) := by decide +kernel
theorem dL_1318 : decode code 1318 = .ok (.aload_n 1, 1) := by decide +kernel
theorem dL_1319 : decode code 1319 = .ok (.invokevirtual 209, 3) := by decide +kernel
theorem dL_1322 : decode code 1322 = .ok (.aload_n 2, 1) := by decide +kernel
theorem dL_1323 : decode code 1323 = .ok (.invokevirtual 212, 3) := by decide +kernel
theorem dL_1326 : decode code 1326 = .ok (.if_icmp .eq 350, 3) := by decide +kernel
theorem dL_1331 : decode code 1331 = .ok (.aload_n 1, 1) := by decide +kernel
theorem dL_1332 : decode code 1332 = .ok (.aload_n 0, 1) := by decide +kernel
theorem dL_1333 : decode code 1333 = .ok (.iload_n 3, 1) := by decide +kernel
theorem dL_1334 : decode code 1334 = .ok (.iconst 1, 1) := by decide +kernel
theorem dL_1335 : decode code 1335 = .ok (.iadd, 1) := by decide +kernel
theorem dL_1336 : decode code 1336 = .ok (.iaload, 1) := by decide +kernel
theorem dL_1337 : decode code 1337 = .ok (.invokevirtual 213, 3) := by decide +kernel
theorem dL_1340 : decode code 1340 = .ok (.aload_n 2, 1) := by decide +kernel
theorem dL_1341 : decode code 1341 = .ok (.aload_n 0, 1) := by decide +kernel
theorem dL_1342 : decode code 1342 = .ok (.iload_n 3, 1) := by decide +kernel
theorem dL_1343 : decode code 1343 = .ok (.iconst 1, 1) := by decide +kernel
theorem dL_1344 : decode code 1344 = .ok (.iadd, 1) := by decide +kernel
theorem dL_1345 : decode code 1345 = .ok (.iaload, 1) := by decide +kernel
theorem dL_1346 : decode code 1346 = .ok (.invokevirtual 216, 3) := by decide +kernel
theorem dL_1349 : decode code 1349 = .ok (.if_icmp .eq 327, 3) := by decide +kernel
theorem dL_1354 : decode code 1354 = .ok (.aload_n 1, 1) := by decide +kernel
theorem dL_1355 : decode code 1355 = .ok (.aload_n 0, 1) := by decide +kernel
theorem dL_1356 : decode code 1356 = .ok (.iload_n 3, 1) := by decide +kernel
theorem dL_1357 : decode code 1357 = .ok (.iconst 1, 1) := by decide +kernel
theorem dL_1358 : decode code 1358 = .ok (.iadd, 1) := by decide +kernel
theorem dL_1359 : decode code 1359 = .ok (.iaload, 1) := by decide +kernel
theorem dL_1360 : decode code 1360 = .ok (.invokevirtual 217, 3) := by decide +kernel
theorem dL_1363 : decode code 1363 = .ok (.aload_n 2, 1) := by decide +kernel
theorem dL_1364 : decode code 1364 = .ok (.aload_n 0, 1) := by decide +kernel
theorem dL_1365 : decode code 1365 = .ok (.iload_n 3, 1) := by decide +kernel
theorem dL_1366 : decode code 1366 = .ok (.iconst 1, 1) := by decide +kernel
theorem dL_1367 : decode code 1367 = .ok (.iadd, 1) := by decide +kernel
theorem dL_1368 : decode code 1368 = .ok (.iaload, 1) := by decide +kernel
theorem dL_1369 : decode code 1369 = .ok (.invokevirtual 220, 3) := by decide +kernel
theorem dL_1372 : decode code 1372 = .ok (.if_icmp .eq 304, 3) := by decide +kernel
theorem dL_1377 : decode code 1377 = .ok (.aload_n 1, 1) := by decide +kernel
theorem dL_1378 : decode code 1378 = .ok (.aload_n 0, 1) := by decide +kernel
theorem dL_1379 : decode code 1379 = .ok (.iload_n 3, 1) := by decide +kernel
theorem dL_1380 : decode code 1380 = .ok (.iconst 1, 1) := by decide +kernel
theorem dL_1381 : decode code 1381 = .ok (.iadd, 1) := by decide +kernel
theorem dL_1382 : decode code 1382 = .ok (.iaload, 1) := by decide +kernel
theorem dL_1383 : decode code 1383 = .ok (.invokevirtual 221, 3) := by decide +kernel
theorem dL_1386 : decode code 1386 = .ok (.aload_n 2, 1) := by decide +kernel
theorem dL_1387 : decode code 1387 = .ok (.aload_n 0, 1) := by decide +kernel
theorem dL_1388 : decode code 1388 = .ok (.iload_n 3, 1) := by decide +kernel
theorem dL_1389 : decode code 1389 = .ok (.iconst 1, 1) := by decide +kernel
theorem dL_1390 : decode code 1390 = .ok (.iadd, 1) := by decide +kernel
theorem dL_1391 : decode code 1391 = .ok (.iaload, 1) := by decide +kernel
theorem dL_1392 : decode code 1392 = .ok (.invokevirtual 224, 3) := by decide +kernel
theorem dL_1395 : decode code 1395 = .ok (.if_icmp .eq 281, 3) := by decide +kernel
theorem dL_1400 : decode code 1400 = .ok (.aload_n 1, 1) := by decide +kernel
theorem dL_1401 : decode code 1401 = .ok (.invokevirtual 225, 3) := by decide +kernel
theorem dL_1404 : decode code 1404 = .ok (.aload_n 2, 1) := by decide +kernel
theorem dL_1405 : decode code 1405 = .ok (.invokevirtual 228, 3) := by decide +kernel
theorem dL_1408 : decode code 1408 = .ok (.if_icmp .eq 268, 3) := by decide +kernel
theorem dL_1413 : decode code 1413 = .ok (.aload_n 1, 1) := by decide +kernel
theorem dL_1414 : decode code 1414 = .ok (.aload_n 0, 1) := by decide +kernel
theorem dL_1415 : decode code 1415 = .ok (.iload_n 3, 1) := by decide +kernel
theorem dL_1416 : decode code 1416 = .ok (.iconst 1, 1) := by decide +kernel
theorem dL_1417 : decode code 1417 = .ok (.iadd, 1) := by decide +kernel
theorem dL_1418 : decode code 1418 = .ok (.iaload, 1) := by decide +kernel
theorem dL_1419 : decode code 1419 = .ok (.aload_n 0, 1) := by decide +kernel
theorem dL_1420 : decode code 1420 = .ok (.iload_n 3, 1) := by decide +kernel
theorem dL_1421 : decode code 1421 = .ok (.iconst 2, 1) := by decide +kernel
theorem dL_1422 : decode code 1422 = .ok (.iadd, 1) := by decide +kernel
theorem dL_1423 : decode code 1423 = .ok (.iaload, 1) := by decide +kernel
theorem dL_1424 : decode code 1424 = .ok (.invokevirtual 229, 3) := by decide +kernel
theorem dL_1427 : decode code 1427 = .ok (.aload_n 2, 1) := by decide +kernel
theorem dL_1428 : decode code 1428 = .ok (.aload_n 0, 1) := by decide +kernel
theorem dL_1429 : decode code 1429 = .ok (.iload_n 3, 1) := by decide +kernel
theorem dL_1430 : decode code 1430 = .ok (.iconst 1, 1) := by decide +kernel
theorem dL_1431 : decode code 1431 = .ok (.iadd, 1) := by decide +kernel
theorem dL_1432 : decode code 1432 = .ok (.iaload, 1) := by decide +kernel
theorem dL_1433 : decode code 1433 = .ok (.aload_n 0, 1) := by decide +kernel
theorem dL_1434 : decode code 1434 = .ok (.iload_n 3, 1) := by decide +kernel
theorem dL_1435 : decode code 1435 = .ok (.iconst 2, 1) := by decide +kernel
theorem dL_1436 : decode code 1436 = .ok (.iadd, 1) := by decide +kernel
theorem dL_1437 : decode code 1437 = .ok (.iaload, 1) := by decide +kernel
theorem dL_1438 : decode code 1438 = .ok (.invokevirtual 232, 3) := by decide +kernel
theorem dL_1441 : decode code 1441 = .ok (.if_icmp .eq 235, 3) := by decide +kernel
theorem dL_1446 : decode code 1446 = .ok (.aload_n 1, 1) := by decide +kernel
theorem dL_1447 : decode code 1447 = .ok (.aload_n 0, 1) := by decide +kernel
theorem dL_1448 : decode code 1448 = .ok (.iload_n 3, 1) := by decide +kernel
theorem dL_1449 : decode code 1449 = .ok (.iconst 1, 1) := by decide +kernel
theorem dL_1450 : decode code 1450 = .ok (.iadd, 1) := by decide +kernel
theorem dL_1451 : decode code 1451 = .ok (.iaload, 1) := by decide +kernel
theorem dL_1452 : decode code 1452 = .ok (.invokevirtual 233, 3) := by decide +kernel
theorem dL_1455 : decode code 1455 = .ok (.aload_n 2, 1) := by decide +kernel
theorem dL_1456 : decode code 1456 = .ok (.aload_n 0, 1) := by decide +kernel
theorem dL_1457 : decode code 1457 = .ok (.iload_n 3, 1) := by decide +kernel
theorem dL_1458 : decode code 1458 = .ok (.iconst 1, 1) := by decide +kernel
theorem dL_1459 : decode code 1459 = .ok (.iadd, 1) := by decide +kernel
theorem dL_1460 : decode code 1460 = .ok (.iaload, 1) := by decide +kernel
theorem dL_1461 : decode code 1461 = .ok (.invokevirtual 236, 3) := by decide +kernel
theorem dL_1464 : decode code 1464 = .ok (.if_icmp .eq 212, 3) := by decide +kernel
theorem dL_1469 : decode code 1469 = .ok (.aload_n 1, 1) := by decide +kernel
theorem dL_1470 : decode code 1470 = .ok (.aload_n 0, 1) := by decide +kernel
theorem dL_1471 : decode code 1471 = .ok (.iload_n 3, 1) := by decide +kernel
theorem dL_1472 : decode code 1472 = .ok (.iconst 1, 1) := by decide +kernel
theorem dL_1473 : decode code 1473 = .ok (.iadd, 1) := by decide +kernel
theorem dL_1474 : decode code 1474 = .ok (.iaload, 1) := by decide +kernel
theorem dL_1475 : decode code 1475 = .ok (.invokevirtual 237, 3) := by decide +kernel
theorem dL_1478 : decode code 1478 = .ok (.aload_n 2, 1) := by decide +kernel
theorem dL_1479 : decode code 1479 = .ok (.aload_n 0, 1) := by decide +kernel
theorem dL_1480 : decode code 1480 = .ok (.iload_n 3, 1) := by decide +kernel
theorem dL_1481 : decode code 1481 = .ok (.iconst 1, 1) := by decide +kernel
theorem dL_1482 : decode code 1482 = .ok (.iadd, 1) := by decide +kernel
theorem dL_1483 : decode code 1483 = .ok (.iaload, 1) := by decide +kernel
theorem dL_1484 : decode code 1484 = .ok (.invokevirtual 240, 3) := by decide +kernel
theorem dL_1487 : decode code 1487 = .ok (.if_icmp .eq 189, 3) := by decide +kernel
theorem dL_1492 : decode code 1492 = .ok (.aload_n 1, 1) := by decide +kernel
theorem dL_1493 : decode code 1493 = .ok (.invokevirtual 241, 3) := by decide +kernel
theorem dL_1496 : decode code 1496 = .ok (.aload_n 2, 1) := by decide +kernel
theorem dL_1497 : decode code 1497 = .ok (.invokevirtual 244, 3) := by decide +kernel
theorem dL_1500 : decode code 1500 = .ok (.if_icmp .eq 176, 3) := by decide +kernel
theorem dL_1505 : decode code 1505 = .ok (.aload_n 1, 1) := by decide +kernel
theorem dL_1506 : decode code 1506 = .ok (.invokevirtual 245, 3) := by decide +kernel
theorem dL_1509 : decode code 1509 = .ok (.aload_n 2, 1) := by decide +kernel
theorem dL_1510 : decode code 1510 = .ok (.invokevirtual 248, 3) := by decide +kernel
theorem dL_1513 : decode code 1513 = .ok (.if_icmp .eq 163, 3) := by decide +kernel
theorem dL_1518 : decode code 1518 = .ok (.aload_n 1, 1) := by decide +kernel
theorem dL_1519 : decode code 1519 = .ok (.aload_n 0, 1) := by decide +kernel
theorem dL_1520 : decode code 1520 = .ok (.iload_n 3, 1) := by decide +kernel
theorem dL_1521 : decode code 1521 = .ok (.iconst 1, 1) := by decide +kernel
theorem dL_1522 : decode code 1522 = .ok (.iadd, 1) := by decide +kernel
theorem dL_1523 : decode code 1523 = .ok (.iaload, 1) := by decide +kernel
theorem dL_1524 : decode code 1524 = .ok (.invokevirtual 249, 3) := by decide +kernel
theorem dL_1527 : decode code 1527 = .ok (.aload_n 2, 1) := by decide +kernel
theorem dL_1528 : decode code 1528 = .ok (.aload_n 0, 1) := by decide +kernel
theorem dL_1529 : decode code 1529 = .ok (.iload_n 3, 1) := by decide +kernel
theorem dL_1530 : decode code 1530 = .ok (.iconst 1, 1) := by decide +kernel
theorem dL_1531 : decode code 1531 = .ok (.iadd, 1) := by decide +kernel
theorem dL_1532 : decode code 1532 = .ok (.iaload, 1) := by decide +kernel
theorem dL_1533 : decode code 1533 = .ok (.invokevirtual 252, 3) := by decide +kernel
theorem dL_1536 : decode code 1536 = .ok (.if_icmp .eq 140, 3) := by decide +kernel
theorem dL_1541 : decode code 1541 = .ok (.aload_n 1, 1) := by decide +kernel
theorem dL_1542 : decode code 1542 = .ok (.aload_n 0, 1) := by decide +kernel
theorem dL_1543 : decode code 1543 = .ok (.iload_n 3, 1) := by decide +kernel
theorem dL_1544 : decode code 1544 = .ok (.iconst 1, 1) := by decide +kernel
theorem dL_1545 : decode code 1545 = .ok (.iadd, 1) := by decide +kernel
theorem dL_1546 : decode code 1546 = .ok (.iaload, 1) := by decide +kernel
theorem dL_1547 : decode code 1547 = .ok (.aload_n 0, 1) := by decide +kernel
theorem dL_1548 : decode code 1548 = .ok (.iload_n 3, 1) := by decide +kernel
theorem dL_1549 : decode code 1549 = .ok (.iconst 2, 1) := by decide +kernel
theorem dL_1550 : decode code 1550 = .ok (.iadd, 1) := by decide +kernel
theorem dL_1551 : decode code 1551 = .ok (.iaload, 1) := by decide +kernel
theorem dL_1552 : decode code 1552 = .ok (.invokevirtual 253, 3) := by decide +kernel
theorem dL_1555 : decode code 1555 = .ok (.aload_n 2, 1) := by decide +kernel
theorem dL_1556 : decode code 1556 = .ok (.aload_n 0, 1) := by decide +kernel
theorem dL_1557 : decode code 1557 = .ok (.iload_n 3, 1) := by decide +kernel
theorem dL_1558 : decode code 1558 = .ok (.iconst 1, 1) := by decide +kernel
theorem dL_1559 : decode code 1559 = .ok (.iadd, 1) := by decide +kernel
theorem dL_1560 : decode code 1560 = .ok (.iaload, 1) := by decide +kernel
theorem dL_1561 : decode code 1561 = .ok (.aload_n 0, 1) := by decide +kernel
theorem dL_1562 : decode code 1562 = .ok (.iload_n 3, 1) := by decide +kernel
theorem dL_1563 : decode code 1563 = .ok (.iconst 2, 1) := by decide +kernel
theorem dL_1564 : decode code 1564 = .ok (.iadd, 1) := by decide +kernel
theorem dL_1565 : decode code 1565 = .ok (.iaload, 1) := by decide +kernel
theorem dL_1566 : decode code 1566 = .ok (.invokevirtual 256, 3) := by decide +kernel
theorem dL_1569 : decode code 1569 = .ok (.if_icmp .eq 107, 3) := by decide +kernel
theorem dL_1574 : decode code 1574 = .ok (.aload_n 1, 1) := by decide +kernel
theorem dL_1575 : decode code 1575 = .ok (.invokevirtual 257, 3) := by decide +kernel
theorem dL_1578 : decode code 1578 = .ok (.aload_n 2, 1) := by decide +kernel
theorem dL_1579 : decode code 1579 = .ok (.invokevirtual 260, 3) := by decide +kernel
theorem dL_1582 : decode code 1582 = .ok (.if_icmp .eq 94, 3) := by decide +kernel
theorem dL_1587 : decode code 1587 = .ok (.aload_n 1, 1) := by decide +kernel
theorem dL_1588 : decode code 1588 = .ok (.aload_n 0, 1) := by decide +kernel
theorem dL_1589 : decode code 1589 = .ok (.iload_n 3, 1) := by decide +kernel
theorem dL_1590 : decode code 1590 = .ok (.iconst 1, 1) := by decide +kernel
theorem dL_1591 : decode code 1591 = .ok (.iadd, 1) := by decide +kernel
theorem dL_1592 : decode code 1592 = .ok (.iaload, 1) := by decide +kernel
theorem dL_1593 : decode code 1593 = .ok (.invokevirtual 261, 3) := by decide +kernel
theorem dL_1596 : decode code 1596 = .ok (.aload_n 2, 1) := by decide +kernel
theorem dL_1597 : decode code 1597 = .ok (.aload_n 0, 1) := by decide +kernel
theorem dL_1598 : decode code 1598 = .ok (.iload_n 3, 1) := by decide +kernel
theorem dL_1599 : decode code 1599 = .ok (.iconst 1, 1) := by decide +kernel
theorem dL_1600 : decode code 1600 = .ok (.iadd, 1) := by decide +kernel
theorem dL_1601 : decode code 1601 = .ok (.iaload, 1) := by decide +kernel
theorem dL_1602 : decode code 1602 = .ok (.invokevirtual 264, 3) := by decide +kernel
theorem dL_1605 : decode code 1605 = .ok (.if_icmp .eq 71, 3) := by decide +kernel
theorem dL_1610 : decode code 1610 = .ok (.aload_n 1, 1) := by decide +kernel
theorem dL_1611 : decode code 1611 = .ok (.aload_n 0, 1) := by decide +kernel
theorem dL_1612 : decode code 1612 = .ok (.iload_n 3, 1) := by decide +kernel
theorem dL_1613 : decode code 1613 = .ok (.iconst 1, 1) := by decide +kernel
theorem dL_1614 : decode code 1614 = .ok (.iadd, 1) := by decide +kernel
theorem dL_1615 : decode code 1615 = .ok (.iaload, 1) := by decide +kernel
theorem dL_1616 : decode code 1616 = .ok (.aload_n 0, 1) := by decide +kernel
theorem dL_1617 : decode code 1617 = .ok (.iload_n 3, 1) := by decide +kernel
theorem dL_1618 : decode code 1618 = .ok (.iconst 2, 1) := by decide +kernel
theorem dL_1619 : decode code 1619 = .ok (.iadd, 1) := by decide +kernel
theorem dL_1620 : decode code 1620 = .ok (.iaload, 1) := by decide +kernel
theorem dL_1621 : decode code 1621 = .ok (.invokevirtual 265, 3) := by decide +kernel
theorem dL_1624 : decode code 1624 = .ok (.aload_n 2, 1) := by decide +kernel
theorem dL_1625 : decode code 1625 = .ok (.aload_n 0, 1) := by decide +kernel
theorem dL_1626 : decode code 1626 = .ok (.iload_n 3, 1) := by decide +kernel
theorem dL_1627 : decode code 1627 = .ok (.iconst 1, 1) := by decide +kernel
theorem dL_1628 : decode code 1628 = .ok (.iadd, 1) := by decide +kernel
theorem dL_1629 : decode code 1629 = .ok (.iaload, 1) := by decide +kernel
theorem dL_1630 : decode code 1630 = .ok (.aload_n 0, 1) := by decide +kernel
theorem dL_1631 : decode code 1631 = .ok (.iload_n 3, 1) := by decide +kernel
theorem dL_1632 : decode code 1632 = .ok (.iconst 2, 1) := by decide +kernel
theorem dL_1633 : decode code 1633 = .ok (.iadd, 1) := by decide +kernel
theorem dL_1634 : decode code 1634 = .ok (.iaload, 1) := by decide +kernel
theorem dL_1635 : decode code 1635 = .ok (.invokevirtual 268, 3) := by decide +kernel
theorem dL_1638 : decode code 1638 = .ok (.if_icmp .eq 38, 3) := by decide +kernel
theorem dL_1643 : decode code 1643 = .ok (.aload_n 1, 1) := by decide +kernel
theorem dL_1644 : decode code 1644 = .ok (.aload_n 0, 1) := by decide +kernel
theorem dL_1645 : decode code 1645 = .ok (.iload_n 3, 1) := by decide +kernel
theorem dL_1646 : decode code 1646 = .ok (.iconst 1, 1) := by decide +kernel
theorem dL_1647 : decode code 1647 = .ok (.iadd, 1) := by decide +kernel
theorem dL_1648 : decode code 1648 = .ok (.iaload, 1) := by decide +kernel
theorem dL_1649 : decode code 1649 = .ok (.aload_n 0, 1) := by decide +kernel
theorem dL_1650 : decode code 1650 = .ok (.iload_n 3, 1) := by decide +kernel
theorem dL_1651 : decode code 1651 = .ok (.iconst 2, 1) := by decide +kernel
theorem dL_1652 : decode code 1652 = .ok (.iadd, 1) := by decide +kernel
theorem dL_1653 : decode code 1653 = .ok (.iaload, 1) := by decide +kernel
theorem dL_1654 : decode code 1654 = .ok (.invokevirtual 269, 3) := by decide +kernel
theorem dL_1657 : decode code 1657 = .ok (.aload_n 2, 1) := by decide +kernel
theorem dL_1658 : decode code 1658 = .ok (.aload_n 0, 1) := by decide +kernel
theorem dL_1659 : decode code 1659 = .ok (.iload_n 3, 1) := by decide +kernel
theorem dL_1660 : decode code 1660 = .ok (.iconst 1, 1) := by decide +kernel
theorem dL_1661 : decode code 1661 = .ok (.iadd, 1) := by decide +kernel
theorem dL_1662 : decode code 1662 = .ok (.iaload, 1) := by decide +kernel
theorem dL_1663 : decode code 1663 = .ok (.aload_n 0, 1) := by decide +kernel
theorem dL_1664 : decode code 1664 = .ok (.iload_n 3, 1) := by decide +kernel
theorem dL_1665 : decode code 1665 = .ok (.iconst 2, 1) := by decide +kernel
theorem dL_1666 : decode code 1666 = .ok (.iadd, 1) := by decide +kernel
theorem dL_1667 : decode code 1667 = .ok (.iaload, 1) := by decide +kernel
theorem dL_1668 : decode code 1668 = .ok (.invokevirtual 272, 3) := by decide +kernel
theorem dL_1671 : decode code 1671 = .ok (.if_icmp .eq 5, 3) := by decide +kernel
theorem dL_18 : decode code 18 = .ok (.iload_n 3, 1) := by decide +kernel
theorem dL_19 : decode code 19 = .ok (.aload_n 0, 1) := by decide +kernel
theorem dL_20 : decode code 20 = .ok (.arraylength, 1) := by decide +kernel
theorem dL_21 : decode code 21 = .ok (.bipush 6, 2) := by decide +kernel
theorem dL_23 : decode code 23 = .ok (.isub, 1) := by decide +kernel
theorem dL_24 : decode code 24 = .ok (.if_icmp .gt 1658, 3) := by decide +kernel
theorem dL_27 : decode code 27 = .ok (.aload_n 0, 1) := by decide +kernel
theorem dL_28 : decode code 28 = .ok (.iload_n 3, 1) := by decide +kernel
theorem dL_29 : decode code 29 = .ok (.iaload, 1) := by decide +kernel
theorem dL_30 : decode code 30 = .ok (.bipush 63, 2) := by decide +kernel
theorem dL_32 : decode code 32 = .ok (.iand, 1) := by decide +kernel
theorem dL_33 : decode code 33 = .ok (.tableswitch 1643 0 63 lwO, 271) := by decide +kernel
theorem dL_1676 : decode code 1676 = .ok (.iinc 3 6, 3) := by decide +kernel
theorem dL_1679 : decode code 1679 = .ok (.goto (-1661), 3) := by decide +kernel
theorem dL_1682 : decode code 1682 = .ok (.iconst 1, 1) := by decide +kernel
theorem dL_1683 : decode code 1683 = .ok (.ireturn, 1) := by decide +kernel
theorem dL_0 : decode code 0 = .ok (.new 7, 3) := by decide +kernel
theorem dL_3 : decode code 3 = .ok (.dup, 1) := by decide +kernel
theorem dL_4 : decode code 4 = .ok (.invokespecial 9, 3) := by decide +kernel
theorem dL_7 : decode code 7 = .ok (.astore_n 1, 1) := by decide +kernel
theorem dL_8 : decode code 8 = .ok (.new 10, 3) := by decide +kernel
theorem dL_11 : decode code 11 = .ok (.dup, 1) := by decide +kernel
theorem dL_12 : decode code 12 = .ok (.invokespecial 12, 3) := by decide +kernel
theorem dL_15 : decode code 15 = .ok (.astore_n 2, 1) := by decide +kernel
theorem dL_16 : decode code 16 = .ok (.iconst 0, 1) := by decide +kernel
theorem dL_17 : decode code 17 = .ok (.istore_n 3, 1) := by decide +kernel
theorem lw_c0 {l : Launch} {G : GM} {n k u : Nat} {h : List va_E} {Q : Option Value → List va_E → Prop} (H : HZ G h n) (hn : n ≤ 511) (hi : 6 * n + 6 ≤ gL G) (hL : gL G ≤ 3072) (hk : 112 ≤ k) (hu : 8004 ≤ u) (kk : ∀ h1, HZ G h1 (n + 1) → Tr l G mL 22 (k - 112) (u - 8004) 1676 (lwV G n) [] h1 Q) : Tr l G mL 22 k u 304 (lwV G n) [] h Q := by
  obtain ⟨d1, d2, k1, u1, Q1, b1, b2, b3, b4, C6, hq⟩ := st_append (l := l) H (by omega) (gX G (nI (6 * n) + 1).toNatClampNeg) (gX G (nI (6 * n) + 2).toNatClampNeg) (gX G (nI (6 * n) + 3).toNatClampNeg) (gX G (nI (6 * n) + 4).toNatClampNeg) (gX G (nI (6 * n) + 5).toNatClampNeg)
  obtain ⟨f0, hc0⟩ := hz_c00 H
  refine am_aload_n dL_304 2 rfl ?_
  refine am_aload_n dL_305 3 rfl ?_
  refine am_iload_n dL_306 0 rfl ?_
  refine am_iconst (v := 1) dL_307 (by decide) ?_
  refine am_iadd dL_308 ?_
  refine am_sld dL_309 (lw_in (j := 1) hi hL (by decide)) ?_
  refine am_aload_n dL_310 3 rfl ?_
  refine am_iload_n dL_311 0 rfl ?_
  refine am_iconst (v := 2) dL_312 (by decide) ?_
  refine am_iadd dL_313 ?_
  refine am_sld dL_314 (lw_in (j := 2) hi hL (by decide)) ?_
  refine am_aload_n dL_315 3 rfl ?_
  refine am_iload_n dL_316 0 rfl ?_
  refine am_iconst (v := 3) dL_317 (by decide) ?_
  refine am_iadd dL_318 ?_
  refine am_sld dL_319 (lw_in (j := 3) hi hL (by decide)) ?_
  refine am_aload_n dL_320 3 rfl ?_
  refine am_iload_n dL_321 0 rfl ?_
  refine am_iconst (v := 4) dL_322 (by decide) ?_
  refine am_iadd dL_323 ?_
  refine am_sld dL_324 (lw_in (j := 4) hi hL (by decide)) ?_
  refine am_aload_n dL_325 3 rfl ?_
  refine am_iload_n dL_326 0 rfl ?_
  refine am_iconst (v := 5) dL_327 (by decide) ?_
  refine am_iadd dL_328 ?_
  refine am_sld dL_329 (lw_in (j := 5) hi hL (by decide)) ?_
  refine am_callV (As := [.int (gX G (nI (6 * n) + 1).toNatClampNeg), .int (gX G (nI (6 * n) + 2).toNatClampNeg), .int (gX G (nI (6 * n) + 3).toNatClampNeg), .int (gX G (nI (6 * n) + 4).toNatClampNeg), .int (gX G (nI (6 * n) + 5).toNatClampNeg)]) (rest := []) dL_330 kML_13 rfl hc0 rfl rfl (Nat.le_of_ble_eq_true rfl) (d2 := d1) (by omega) (k2 := k1) (by omega) (u2 := u1) (by omega) (Nat.le_of_ble_eq_true rfl) C6 (fun v h1 q => ?_)
  obtain ⟨x1, rfl, ⟨fs, hc1⟩, Q2, C7, hq2⟩ := hq v h1 q
  refine am_aload_n dL_333 1 rfl ?_
  refine am_aload_n dL_334 3 rfl ?_
  refine am_iload_n dL_335 0 rfl ?_
  refine am_iconst (v := 1) dL_336 (by decide) ?_
  refine am_iadd dL_337 ?_
  refine am_sld dL_338 (lw_in (j := 1) hi hL (by decide)) ?_
  refine am_aload_n dL_339 3 rfl ?_
  refine am_iload_n dL_340 0 rfl ?_
  refine am_iconst (v := 2) dL_341 (by decide) ?_
  refine am_iadd dL_342 ?_
  refine am_sld dL_343 (lw_in (j := 2) hi hL (by decide)) ?_
  refine am_aload_n dL_344 3 rfl ?_
  refine am_iload_n dL_345 0 rfl ?_
  refine am_iconst (v := 3) dL_346 (by decide) ?_
  refine am_iadd dL_347 ?_
  refine am_sld dL_348 (lw_in (j := 3) hi hL (by decide)) ?_
  refine am_aload_n dL_349 3 rfl ?_
  refine am_iload_n dL_350 0 rfl ?_
  refine am_iconst (v := 4) dL_351 (by decide) ?_
  refine am_iadd dL_352 ?_
  refine am_sld dL_353 (lw_in (j := 4) hi hL (by decide)) ?_
  refine am_aload_n dL_354 3 rfl ?_
  refine am_iload_n dL_355 0 rfl ?_
  refine am_iconst (v := 5) dL_356 (by decide) ?_
  refine am_iadd dL_357 ?_
  refine am_sld dL_358 (lw_in (j := 5) hi hL (by decide)) ?_
  refine am_callV (As := [.int (gX G (nI (6 * n) + 1).toNatClampNeg), .int (gX G (nI (6 * n) + 2).toNatClampNeg), .int (gX G (nI (6 * n) + 3).toNatClampNeg), .int (gX G (nI (6 * n) + 4).toNatClampNeg), .int (gX G (nI (6 * n) + 5).toNatClampNeg)]) (rest := [.int x1]) dL_359 kML_17 rfl hc1 rfl rfl (Nat.le_of_ble_eq_true rfl) (d2 := d2) (by omega) (k2 := 0) (Nat.zero_le _) (u2 := 0) (Nat.zero_le _) (Nat.le_of_ble_eq_true rfl) C7 (fun v2 h2 q2 => ?_)
  obtain ⟨rfl, H2⟩ := hq2 v2 h2 q2
  refine am_icmp_eq dL_362 (by decide : ((362 : Nat) : Int) + 1314 = ((1676 : Nat) : Int)) (fun _ => ?_) (fun hh => absurd rfl hh)
  exact tr_wk (by omega) (by omega) (kk h2 H2)
theorem lw_c1 {l : Launch} {G : GM} {n k u : Nat} {h : List va_E} {Q : Option Value → List va_E → Prop} (H : HZ G h n) (hn : n ≤ 511) (hi : 6 * n + 6 ≤ gL G) (hL : gL G ≤ 3072) (hk : 112 ≤ k) (hu : 8004 ≤ u) (kk : ∀ h1, HZ G h1 (n + 1) → Tr l G mL 22 (k - 112) (u - 8004) 1676 (lwV G n) [] h1 Q) : Tr l G mL 22 k u 367 (lwV G n) [] h Q := by
  obtain ⟨d1, d2, k1, u1, Q1, b1, b2, b3, b4, C6, hq⟩ := st_truncate (l := l) H (by omega) (gX G (nI (6 * n) + 1).toNatClampNeg)
  obtain ⟨f0, hc0⟩ := hz_c00 H
  refine am_aload_n dL_367 2 rfl ?_
  refine am_aload_n dL_368 3 rfl ?_
  refine am_iload_n dL_369 0 rfl ?_
  refine am_iconst (v := 1) dL_370 (by decide) ?_
  refine am_iadd dL_371 ?_
  refine am_sld dL_372 (lw_in (j := 1) hi hL (by decide)) ?_
  refine am_callV (As := [.int (gX G (nI (6 * n) + 1).toNatClampNeg)]) (rest := []) dL_373 kML_18 rfl hc0 rfl rfl (Nat.le_of_ble_eq_true rfl) (d2 := d1) (by omega) (k2 := k1) (by omega) (u2 := u1) (by omega) (Nat.le_of_ble_eq_true rfl) C6 (fun v h1 q => ?_)
  obtain ⟨x1, rfl, ⟨fs, hc1⟩, Q2, C7, hq2⟩ := hq v h1 q
  refine am_aload_n dL_376 1 rfl ?_
  refine am_aload_n dL_377 3 rfl ?_
  refine am_iload_n dL_378 0 rfl ?_
  refine am_iconst (v := 1) dL_379 (by decide) ?_
  refine am_iadd dL_380 ?_
  refine am_sld dL_381 (lw_in (j := 1) hi hL (by decide)) ?_
  refine am_callV (As := [.int (gX G (nI (6 * n) + 1).toNatClampNeg)]) (rest := [.int x1]) dL_382 kML_22 rfl hc1 rfl rfl (Nat.le_of_ble_eq_true rfl) (d2 := d2) (by omega) (k2 := 0) (Nat.zero_le _) (u2 := 0) (Nat.zero_le _) (Nat.le_of_ble_eq_true rfl) C7 (fun v2 h2 q2 => ?_)
  obtain ⟨rfl, H2⟩ := hq2 v2 h2 q2
  refine am_icmp_eq dL_385 (by decide : ((385 : Nat) : Int) + 1291 = ((1676 : Nat) : Int)) (fun _ => ?_) (fun hh => absurd rfl hh)
  exact tr_wk (by omega) (by omega) (kk h2 H2)
theorem lw_c2 {l : Launch} {G : GM} {n k u : Nat} {h : List va_E} {Q : Option Value → List va_E → Prop} (H : HZ G h n) (hn : n ≤ 511) (hi : 6 * n + 6 ≤ gL G) (hL : gL G ≤ 3072) (hk : 112 ≤ k) (hu : 8004 ≤ u) (kk : ∀ h1, HZ G h1 (n + 1) → Tr l G mL 22 (k - 112) (u - 8004) 1676 (lwV G n) [] h1 Q) : Tr l G mL 22 k u 390 (lwV G n) [] h Q := by
  obtain ⟨d1, d2, k1, u1, Q1, b1, b2, b3, b4, C6, hq⟩ := st_load (l := l) H (by omega)
  obtain ⟨f0, hc0⟩ := hz_c00 H
  refine am_aload_n dL_390 2 rfl ?_
  refine am_callV (As := []) (rest := []) dL_391 kML_23 rfl hc0 rfl rfl (Nat.le_of_ble_eq_true rfl) (d2 := d1) (by omega) (k2 := k1) (by omega) (u2 := u1) (by omega) (Nat.le_of_ble_eq_true rfl) C6 (fun v h1 q => ?_)
  obtain ⟨x1, rfl, ⟨fs, hc1⟩, Q2, C7, hq2⟩ := hq v h1 q
  refine am_aload_n dL_394 1 rfl ?_
  refine am_callV (As := []) (rest := [.int x1]) dL_395 kML_27 rfl hc1 rfl rfl (Nat.le_of_ble_eq_true rfl) (d2 := d2) (by omega) (k2 := 0) (Nat.zero_le _) (u2 := 0) (Nat.zero_le _) (Nat.le_of_ble_eq_true rfl) C7 (fun v2 h2 q2 => ?_)
  obtain ⟨rfl, H2⟩ := hq2 v2 h2 q2
  refine am_icmp_eq dL_398 (by decide : ((398 : Nat) : Int) + 1278 = ((1676 : Nat) : Int)) (fun _ => ?_) (fun hh => absurd rfl hh)
  exact tr_wk (by omega) (by omega) (kk h2 H2)
theorem lw_c3 {l : Launch} {G : GM} {n k u : Nat} {h : List va_E} {Q : Option Value → List va_E → Prop} (H : HZ G h n) (hn : n ≤ 511) (hi : 6 * n + 6 ≤ gL G) (hL : gL G ≤ 3072) (hk : 112 ≤ k) (hu : 8004 ≤ u) (kk : ∀ h1, HZ G h1 (n + 1) → Tr l G mL 22 (k - 112) (u - 8004) 1676 (lwV G n) [] h1 Q) : Tr l G mL 22 k u 403 (lwV G n) [] h Q := by
  obtain ⟨d1, d2, k1, u1, Q1, b1, b2, b3, b4, C6, hq⟩ := st_errorCode (l := l) H (by omega)
  obtain ⟨f0, hc0⟩ := hz_c00 H
  refine am_aload_n dL_403 2 rfl ?_
  refine am_callV (As := []) (rest := []) dL_404 kML_28 rfl hc0 rfl rfl (Nat.le_of_ble_eq_true rfl) (d2 := d1) (by omega) (k2 := k1) (by omega) (u2 := u1) (by omega) (Nat.le_of_ble_eq_true rfl) C6 (fun v h1 q => ?_)
  obtain ⟨x1, rfl, ⟨fs, hc1⟩, Q2, C7, hq2⟩ := hq v h1 q
  refine am_aload_n dL_407 1 rfl ?_
  refine am_callV (As := []) (rest := [.int x1]) dL_408 kML_31 rfl hc1 rfl rfl (Nat.le_of_ble_eq_true rfl) (d2 := d2) (by omega) (k2 := 0) (Nat.zero_le _) (u2 := 0) (Nat.zero_le _) (Nat.le_of_ble_eq_true rfl) C7 (fun v2 h2 q2 => ?_)
  obtain ⟨rfl, H2⟩ := hq2 v2 h2 q2
  refine am_icmp_eq dL_411 (by decide : ((411 : Nat) : Int) + 1265 = ((1676 : Nat) : Int)) (fun _ => ?_) (fun hh => absurd rfl hh)
  exact tr_wk (by omega) (by omega) (kk h2 H2)
theorem lw_c4 {l : Launch} {G : GM} {n k u : Nat} {h : List va_E} {Q : Option Value → List va_E → Prop} (H : HZ G h n) (hn : n ≤ 511) (hi : 6 * n + 6 ≤ gL G) (hL : gL G ≤ 3072) (hk : 112 ≤ k) (hu : 8004 ≤ u) (kk : ∀ h1, HZ G h1 (n + 1) → Tr l G mL 22 (k - 112) (u - 8004) 1676 (lwV G n) [] h1 Q) : Tr l G mL 22 k u 416 (lwV G n) [] h Q := by
  obtain ⟨d1, d2, k1, u1, Q1, b1, b2, b3, b4, C6, hq⟩ := st_errorPosition (l := l) H (by omega)
  obtain ⟨f0, hc0⟩ := hz_c00 H
  refine am_aload_n dL_416 2 rfl ?_
  refine am_callV (As := []) (rest := []) dL_417 kML_32 rfl hc0 rfl rfl (Nat.le_of_ble_eq_true rfl) (d2 := d1) (by omega) (k2 := k1) (by omega) (u2 := u1) (by omega) (Nat.le_of_ble_eq_true rfl) C6 (fun v h1 q => ?_)
  obtain ⟨x1, rfl, ⟨fs, hc1⟩, Q2, C7, hq2⟩ := hq v h1 q
  refine am_aload_n dL_420 1 rfl ?_
  refine am_callV (As := []) (rest := [.int x1]) dL_421 kML_35 rfl hc1 rfl rfl (Nat.le_of_ble_eq_true rfl) (d2 := d2) (by omega) (k2 := 0) (Nat.zero_le _) (u2 := 0) (Nat.zero_le _) (Nat.le_of_ble_eq_true rfl) C7 (fun v2 h2 q2 => ?_)
  obtain ⟨rfl, H2⟩ := hq2 v2 h2 q2
  refine am_icmp_eq dL_424 (by decide : ((424 : Nat) : Int) + 1252 = ((1676 : Nat) : Int)) (fun _ => ?_) (fun hh => absurd rfl hh)
  exact tr_wk (by omega) (by omega) (kk h2 H2)
theorem lw_c5 {l : Launch} {G : GM} {n k u : Nat} {h : List va_E} {Q : Option Value → List va_E → Prop} (H : HZ G h n) (hn : n ≤ 511) (hi : 6 * n + 6 ≤ gL G) (hL : gL G ≤ 3072) (hk : 112 ≤ k) (hu : 8004 ≤ u) (kk : ∀ h1, HZ G h1 (n + 1) → Tr l G mL 22 (k - 112) (u - 8004) 1676 (lwV G n) [] h1 Q) : Tr l G mL 22 k u 429 (lwV G n) [] h Q := by
  obtain ⟨d1, d2, k1, u1, Q1, b1, b2, b3, b4, C6, hq⟩ := st_yarnCount (l := l) H (by omega)
  obtain ⟨f0, hc0⟩ := hz_c00 H
  refine am_aload_n dL_429 2 rfl ?_
  refine am_callV (As := []) (rest := []) dL_430 kML_36 rfl hc0 rfl rfl (Nat.le_of_ble_eq_true rfl) (d2 := d1) (by omega) (k2 := k1) (by omega) (u2 := u1) (by omega) (Nat.le_of_ble_eq_true rfl) C6 (fun v h1 q => ?_)
  obtain ⟨x1, rfl, ⟨fs, hc1⟩, Q2, C7, hq2⟩ := hq v h1 q
  refine am_aload_n dL_433 1 rfl ?_
  refine am_callV (As := []) (rest := [.int x1]) dL_434 kML_39 rfl hc1 rfl rfl (Nat.le_of_ble_eq_true rfl) (d2 := d2) (by omega) (k2 := 0) (Nat.zero_le _) (u2 := 0) (Nat.zero_le _) (Nat.le_of_ble_eq_true rfl) C7 (fun v2 h2 q2 => ?_)
  obtain ⟨rfl, H2⟩ := hq2 v2 h2 q2
  refine am_icmp_eq dL_437 (by decide : ((437 : Nat) : Int) + 1239 = ((1676 : Nat) : Int)) (fun _ => ?_) (fun hh => absurd rfl hh)
  exact tr_wk (by omega) (by omega) (kk h2 H2)
theorem lw_c6 {l : Launch} {G : GM} {n k u : Nat} {h : List va_E} {Q : Option Value → List va_E → Prop} (H : HZ G h n) (hn : n ≤ 511) (hi : 6 * n + 6 ≤ gL G) (hL : gL G ≤ 3072) (hk : 112 ≤ k) (hu : 8004 ≤ u) (kk : ∀ h1, HZ G h1 (n + 1) → Tr l G mL 22 (k - 112) (u - 8004) 1676 (lwV G n) [] h1 Q) : Tr l G mL 22 k u 442 (lwV G n) [] h Q := by
  obtain ⟨d1, d2, k1, u1, Q1, b1, b2, b3, b4, C6, hq⟩ := st_shapeCount (l := l) H (by omega)
  obtain ⟨f0, hc0⟩ := hz_c00 H
  refine am_aload_n dL_442 2 rfl ?_
  refine am_callV (As := []) (rest := []) dL_443 kML_40 rfl hc0 rfl rfl (Nat.le_of_ble_eq_true rfl) (d2 := d1) (by omega) (k2 := k1) (by omega) (u2 := u1) (by omega) (Nat.le_of_ble_eq_true rfl) C6 (fun v h1 q => ?_)
  obtain ⟨x1, rfl, ⟨fs, hc1⟩, Q2, C7, hq2⟩ := hq v h1 q
  refine am_aload_n dL_446 1 rfl ?_
  refine am_callV (As := []) (rest := [.int x1]) dL_447 kML_43 rfl hc1 rfl rfl (Nat.le_of_ble_eq_true rfl) (d2 := d2) (by omega) (k2 := 0) (Nat.zero_le _) (u2 := 0) (Nat.zero_le _) (Nat.le_of_ble_eq_true rfl) C7 (fun v2 h2 q2 => ?_)
  obtain ⟨rfl, H2⟩ := hq2 v2 h2 q2
  refine am_icmp_eq dL_450 (by decide : ((450 : Nat) : Int) + 1226 = ((1676 : Nat) : Int)) (fun _ => ?_) (fun hh => absurd rfl hh)
  exact tr_wk (by omega) (by omega) (kk h2 H2)
theorem lw_c7 {l : Launch} {G : GM} {n k u : Nat} {h : List va_E} {Q : Option Value → List va_E → Prop} (H : HZ G h n) (hn : n ≤ 511) (hi : 6 * n + 6 ≤ gL G) (hL : gL G ≤ 3072) (hk : 112 ≤ k) (hu : 8004 ≤ u) (kk : ∀ h1, HZ G h1 (n + 1) → Tr l G mL 22 (k - 112) (u - 8004) 1676 (lwV G n) [] h1 Q) : Tr l G mL 22 k u 455 (lwV G n) [] h Q := by
  obtain ⟨d1, d2, k1, u1, Q1, b1, b2, b3, b4, C6, hq⟩ := st_sizeCount (l := l) H (by omega)
  obtain ⟨f0, hc0⟩ := hz_c00 H
  refine am_aload_n dL_455 2 rfl ?_
  refine am_callV (As := []) (rest := []) dL_456 kML_44 rfl hc0 rfl rfl (Nat.le_of_ble_eq_true rfl) (d2 := d1) (by omega) (k2 := k1) (by omega) (u2 := u1) (by omega) (Nat.le_of_ble_eq_true rfl) C6 (fun v h1 q => ?_)
  obtain ⟨x1, rfl, ⟨fs, hc1⟩, Q2, C7, hq2⟩ := hq v h1 q
  refine am_aload_n dL_459 1 rfl ?_
  refine am_callV (As := []) (rest := [.int x1]) dL_460 kML_47 rfl hc1 rfl rfl (Nat.le_of_ble_eq_true rfl) (d2 := d2) (by omega) (k2 := 0) (Nat.zero_le _) (u2 := 0) (Nat.zero_le _) (Nat.le_of_ble_eq_true rfl) C7 (fun v2 h2 q2 => ?_)
  obtain ⟨rfl, H2⟩ := hq2 v2 h2 q2
  refine am_icmp_eq dL_463 (by decide : ((463 : Nat) : Int) + 1213 = ((1676 : Nat) : Int)) (fun _ => ?_) (fun hh => absurd rfl hh)
  exact tr_wk (by omega) (by omega) (kk h2 H2)
theorem lw_c8 {l : Launch} {G : GM} {n k u : Nat} {h : List va_E} {Q : Option Value → List va_E → Prop} (H : HZ G h n) (hn : n ≤ 511) (hi : 6 * n + 6 ≤ gL G) (hL : gL G ≤ 3072) (hk : 112 ≤ k) (hu : 8004 ≤ u) (kk : ∀ h1, HZ G h1 (n + 1) → Tr l G mL 22 (k - 112) (u - 8004) 1676 (lwV G n) [] h1 Q) : Tr l G mL 22 k u 468 (lwV G n) [] h Q := by
  obtain ⟨d1, d2, k1, u1, Q1, b1, b2, b3, b4, C6, hq⟩ := st_pieceCount (l := l) H (by omega)
  obtain ⟨f0, hc0⟩ := hz_c00 H
  refine am_aload_n dL_468 2 rfl ?_
  refine am_callV (As := []) (rest := []) dL_469 kML_48 rfl hc0 rfl rfl (Nat.le_of_ble_eq_true rfl) (d2 := d1) (by omega) (k2 := k1) (by omega) (u2 := u1) (by omega) (Nat.le_of_ble_eq_true rfl) C6 (fun v h1 q => ?_)
  obtain ⟨x1, rfl, ⟨fs, hc1⟩, Q2, C7, hq2⟩ := hq v h1 q
  refine am_aload_n dL_472 1 rfl ?_
  refine am_callV (As := []) (rest := [.int x1]) dL_473 kML_51 rfl hc1 rfl rfl (Nat.le_of_ble_eq_true rfl) (d2 := d2) (by omega) (k2 := 0) (Nat.zero_le _) (u2 := 0) (Nat.zero_le _) (Nat.le_of_ble_eq_true rfl) C7 (fun v2 h2 q2 => ?_)
  obtain ⟨rfl, H2⟩ := hq2 v2 h2 q2
  refine am_icmp_eq dL_476 (by decide : ((476 : Nat) : Int) + 1200 = ((1676 : Nat) : Int)) (fun _ => ?_) (fun hh => absurd rfl hh)
  exact tr_wk (by omega) (by omega) (kk h2 H2)
theorem lw_c9 {l : Launch} {G : GM} {n k u : Nat} {h : List va_E} {Q : Option Value → List va_E → Prop} (H : HZ G h n) (hn : n ≤ 511) (hi : 6 * n + 6 ≤ gL G) (hL : gL G ≤ 3072) (hk : 112 ≤ k) (hu : 8004 ≤ u) (kk : ∀ h1, HZ G h1 (n + 1) → Tr l G mL 22 (k - 112) (u - 8004) 1676 (lwV G n) [] h1 Q) : Tr l G mL 22 k u 481 (lwV G n) [] h Q := by
  obtain ⟨d1, d2, k1, u1, Q1, b1, b2, b3, b4, C6, hq⟩ := st_days (l := l) H (by omega)
  obtain ⟨f0, hc0⟩ := hz_c00 H
  refine am_aload_n dL_481 2 rfl ?_
  refine am_callV (As := []) (rest := []) dL_482 kML_52 rfl hc0 rfl rfl (Nat.le_of_ble_eq_true rfl) (d2 := d1) (by omega) (k2 := k1) (by omega) (u2 := u1) (by omega) (Nat.le_of_ble_eq_true rfl) C6 (fun v h1 q => ?_)
  obtain ⟨x1, rfl, ⟨fs, hc1⟩, Q2, C7, hq2⟩ := hq v h1 q
  refine am_aload_n dL_485 1 rfl ?_
  refine am_callV (As := []) (rest := [.int x1]) dL_486 kML_55 rfl hc1 rfl rfl (Nat.le_of_ble_eq_true rfl) (d2 := d2) (by omega) (k2 := 0) (Nat.zero_le _) (u2 := 0) (Nat.zero_le _) (Nat.le_of_ble_eq_true rfl) C7 (fun v2 h2 q2 => ?_)
  obtain ⟨rfl, H2⟩ := hq2 v2 h2 q2
  refine am_icmp_eq dL_489 (by decide : ((489 : Nat) : Int) + 1187 = ((1676 : Nat) : Int)) (fun _ => ?_) (fun hh => absurd rfl hh)
  exact tr_wk (by omega) (by omega) (kk h2 H2)
theorem lw_c10 {l : Launch} {G : GM} {n k u : Nat} {h : List va_E} {Q : Option Value → List va_E → Prop} (H : HZ G h n) (hn : n ≤ 511) (hi : 6 * n + 6 ≤ gL G) (hL : gL G ≤ 3072) (hk : 112 ≤ k) (hu : 8004 ≤ u) (kk : ∀ h1, HZ G h1 (n + 1) → Tr l G mL 22 (k - 112) (u - 8004) 1676 (lwV G n) [] h1 Q) : Tr l G mL 22 k u 494 (lwV G n) [] h Q := by
  obtain ⟨d1, d2, k1, u1, Q1, b1, b2, b3, b4, C6, hq⟩ := st_undoCount (l := l) H (by omega)
  obtain ⟨f0, hc0⟩ := hz_c00 H
  refine am_aload_n dL_494 2 rfl ?_
  refine am_callV (As := []) (rest := []) dL_495 kML_56 rfl hc0 rfl rfl (Nat.le_of_ble_eq_true rfl) (d2 := d1) (by omega) (k2 := k1) (by omega) (u2 := u1) (by omega) (Nat.le_of_ble_eq_true rfl) C6 (fun v h1 q => ?_)
  obtain ⟨x1, rfl, ⟨fs, hc1⟩, Q2, C7, hq2⟩ := hq v h1 q
  refine am_aload_n dL_498 1 rfl ?_
  refine am_callV (As := []) (rest := [.int x1]) dL_499 kML_59 rfl hc1 rfl rfl (Nat.le_of_ble_eq_true rfl) (d2 := d2) (by omega) (k2 := 0) (Nat.zero_le _) (u2 := 0) (Nat.zero_le _) (Nat.le_of_ble_eq_true rfl) C7 (fun v2 h2 q2 => ?_)
  obtain ⟨rfl, H2⟩ := hq2 v2 h2 q2
  refine am_icmp_eq dL_502 (by decide : ((502 : Nat) : Int) + 1174 = ((1676 : Nat) : Int)) (fun _ => ?_) (fun hh => absurd rfl hh)
  exact tr_wk (by omega) (by omega) (kk h2 H2)
theorem lw_c11 {l : Launch} {G : GM} {n k u : Nat} {h : List va_E} {Q : Option Value → List va_E → Prop} (H : HZ G h n) (hn : n ≤ 511) (hi : 6 * n + 6 ≤ gL G) (hL : gL G ≤ 3072) (hk : 112 ≤ k) (hu : 8004 ≤ u) (kk : ∀ h1, HZ G h1 (n + 1) → Tr l G mL 22 (k - 112) (u - 8004) 1676 (lwV G n) [] h1 Q) : Tr l G mL 22 k u 507 (lwV G n) [] h Q := by
  obtain ⟨d1, d2, k1, u1, Q1, b1, b2, b3, b4, C6, hq⟩ := st_lengthTolerance (l := l) H (by omega)
  obtain ⟨f0, hc0⟩ := hz_c00 H
  refine am_aload_n dL_507 2 rfl ?_
  refine am_callV (As := []) (rest := []) dL_508 kML_60 rfl hc0 rfl rfl (Nat.le_of_ble_eq_true rfl) (d2 := d1) (by omega) (k2 := k1) (by omega) (u2 := u1) (by omega) (Nat.le_of_ble_eq_true rfl) C6 (fun v h1 q => ?_)
  obtain ⟨x1, rfl, ⟨fs, hc1⟩, Q2, C7, hq2⟩ := hq v h1 q
  refine am_aload_n dL_511 1 rfl ?_
  refine am_callV (As := []) (rest := [.int x1]) dL_512 kML_63 rfl hc1 rfl rfl (Nat.le_of_ble_eq_true rfl) (d2 := d2) (by omega) (k2 := 0) (Nat.zero_le _) (u2 := 0) (Nat.zero_le _) (Nat.le_of_ble_eq_true rfl) C7 (fun v2 h2 q2 => ?_)
  obtain ⟨rfl, H2⟩ := hq2 v2 h2 q2
  refine am_icmp_eq dL_515 (by decide : ((515 : Nat) : Int) + 1161 = ((1676 : Nat) : Int)) (fun _ => ?_) (fun hh => absurd rfl hh)
  exact tr_wk (by omega) (by omega) (kk h2 H2)
theorem lw_c12 {l : Launch} {G : GM} {n k u : Nat} {h : List va_E} {Q : Option Value → List va_E → Prop} (H : HZ G h n) (hn : n ≤ 511) (hi : 6 * n + 6 ≤ gL G) (hL : gL G ≤ 3072) (hk : 112 ≤ k) (hu : 8004 ≤ u) (kk : ∀ h1, HZ G h1 (n + 1) → Tr l G mL 22 (k - 112) (u - 8004) 1676 (lwV G n) [] h1 Q) : Tr l G mL 22 k u 520 (lwV G n) [] h Q := by
  obtain ⟨d1, d2, k1, u1, Q1, b1, b2, b3, b4, C6, hq⟩ := st_shadeTolerance (l := l) H (by omega)
  obtain ⟨f0, hc0⟩ := hz_c00 H
  refine am_aload_n dL_520 2 rfl ?_
  refine am_callV (As := []) (rest := []) dL_521 kML_64 rfl hc0 rfl rfl (Nat.le_of_ble_eq_true rfl) (d2 := d1) (by omega) (k2 := k1) (by omega) (u2 := u1) (by omega) (Nat.le_of_ble_eq_true rfl) C6 (fun v h1 q => ?_)
  obtain ⟨x1, rfl, ⟨fs, hc1⟩, Q2, C7, hq2⟩ := hq v h1 q
  refine am_aload_n dL_524 1 rfl ?_
  refine am_callV (As := []) (rest := [.int x1]) dL_525 kML_67 rfl hc1 rfl rfl (Nat.le_of_ble_eq_true rfl) (d2 := d2) (by omega) (k2 := 0) (Nat.zero_le _) (u2 := 0) (Nat.zero_le _) (Nat.le_of_ble_eq_true rfl) C7 (fun v2 h2 q2 => ?_)
  obtain ⟨rfl, H2⟩ := hq2 v2 h2 q2
  refine am_icmp_eq dL_528 (by decide : ((528 : Nat) : Int) + 1148 = ((1676 : Nat) : Int)) (fun _ => ?_) (fun hh => absurd rfl hh)
  exact tr_wk (by omega) (by omega) (kk h2 H2)
theorem lw_c13 {l : Launch} {G : GM} {n k u : Nat} {h : List va_E} {Q : Option Value → List va_E → Prop} (H : HZ G h n) (hn : n ≤ 511) (hi : 6 * n + 6 ≤ gL G) (hL : gL G ≤ 3072) (hk : 112 ≤ k) (hu : 8004 ≤ u) (kk : ∀ h1, HZ G h1 (n + 1) → Tr l G mL 22 (k - 112) (u - 8004) 1676 (lwV G n) [] h1 Q) : Tr l G mL 22 k u 533 (lwV G n) [] h Q := by
  obtain ⟨d1, d2, k1, u1, Q1, b1, b2, b3, b4, C6, hq⟩ := st_steam (l := l) H (by omega)
  obtain ⟨f0, hc0⟩ := hz_c00 H
  refine am_aload_n dL_533 2 rfl ?_
  refine am_callV (As := []) (rest := []) dL_534 kML_68 rfl hc0 rfl rfl (Nat.le_of_ble_eq_true rfl) (d2 := d1) (by omega) (k2 := k1) (by omega) (u2 := u1) (by omega) (Nat.le_of_ble_eq_true rfl) C6 (fun v h1 q => ?_)
  obtain ⟨x1, rfl, ⟨fs, hc1⟩, Q2, C7, hq2⟩ := hq v h1 q
  refine am_aload_n dL_537 1 rfl ?_
  refine am_callV (As := []) (rest := [.int x1]) dL_538 kML_71 rfl hc1 rfl rfl (Nat.le_of_ble_eq_true rfl) (d2 := d2) (by omega) (k2 := 0) (Nat.zero_le _) (u2 := 0) (Nat.zero_le _) (Nat.le_of_ble_eq_true rfl) C7 (fun v2 h2 q2 => ?_)
  obtain ⟨rfl, H2⟩ := hq2 v2 h2 q2
  refine am_icmp_eq dL_541 (by decide : ((541 : Nat) : Int) + 1135 = ((1676 : Nat) : Int)) (fun _ => ?_) (fun hh => absurd rfl hh)
  exact tr_wk (by omega) (by omega) (kk h2 H2)
theorem lw_c14 {l : Launch} {G : GM} {n k u : Nat} {h : List va_E} {Q : Option Value → List va_E → Prop} (H : HZ G h n) (hn : n ≤ 511) (hi : 6 * n + 6 ≤ gL G) (hL : gL G ≤ 3072) (hk : 112 ≤ k) (hu : 8004 ≤ u) (kk : ∀ h1, HZ G h1 (n + 1) → Tr l G mL 22 (k - 112) (u - 8004) 1676 (lwV G n) [] h1 Q) : Tr l G mL 22 k u 546 (lwV G n) [] h Q := by
  obtain ⟨d1, d2, k1, u1, Q1, b1, b2, b3, b4, C6, hq⟩ := st_find (l := l) H (by omega) (gX G (nI (6 * n) + 1).toNatClampNeg)
  obtain ⟨f0, hc0⟩ := hz_c00 H
  refine am_aload_n dL_546 2 rfl ?_
  refine am_aload_n dL_547 3 rfl ?_
  refine am_iload_n dL_548 0 rfl ?_
  refine am_iconst (v := 1) dL_549 (by decide) ?_
  refine am_iadd dL_550 ?_
  refine am_sld dL_551 (lw_in (j := 1) hi hL (by decide)) ?_
  refine am_callV (As := [.int (gX G (nI (6 * n) + 1).toNatClampNeg)]) (rest := []) dL_552 kML_72 rfl hc0 rfl rfl (Nat.le_of_ble_eq_true rfl) (d2 := d1) (by omega) (k2 := k1) (by omega) (u2 := u1) (by omega) (Nat.le_of_ble_eq_true rfl) C6 (fun v h1 q => ?_)
  obtain ⟨x1, rfl, ⟨fs, hc1⟩, Q2, C7, hq2⟩ := hq v h1 q
  refine am_aload_n dL_555 1 rfl ?_
  refine am_aload_n dL_556 3 rfl ?_
  refine am_iload_n dL_557 0 rfl ?_
  refine am_iconst (v := 1) dL_558 (by decide) ?_
  refine am_iadd dL_559 ?_
  refine am_sld dL_560 (lw_in (j := 1) hi hL (by decide)) ?_
  refine am_callV (As := [.int (gX G (nI (6 * n) + 1).toNatClampNeg)]) (rest := [.int x1]) dL_561 kML_75 rfl hc1 rfl rfl (Nat.le_of_ble_eq_true rfl) (d2 := d2) (by omega) (k2 := 0) (Nat.zero_le _) (u2 := 0) (Nat.zero_le _) (Nat.le_of_ble_eq_true rfl) C7 (fun v2 h2 q2 => ?_)
  obtain ⟨rfl, H2⟩ := hq2 v2 h2 q2
  refine am_icmp_eq dL_564 (by decide : ((564 : Nat) : Int) + 1112 = ((1676 : Nat) : Int)) (fun _ => ?_) (fun hh => absurd rfl hh)
  exact tr_wk (by omega) (by omega) (kk h2 H2)
theorem lw_c15 {l : Launch} {G : GM} {n k u : Nat} {h : List va_E} {Q : Option Value → List va_E → Prop} (H : HZ G h n) (hn : n ≤ 511) (hi : 6 * n + 6 ≤ gL G) (hL : gL G ≤ 3072) (hk : 112 ≤ k) (hu : 8004 ≤ u) (kk : ∀ h1, HZ G h1 (n + 1) → Tr l G mL 22 (k - 112) (u - 8004) 1676 (lwV G n) [] h1 Q) : Tr l G mL 22 k u 569 (lwV G n) [] h Q := by
  obtain ⟨d1, d2, k1, u1, Q1, b1, b2, b3, b4, C6, hq⟩ := st_length (l := l) H (by omega) (gX G (nI (6 * n) + 1).toNatClampNeg)
  obtain ⟨f0, hc0⟩ := hz_c00 H
  refine am_aload_n dL_569 2 rfl ?_
  refine am_aload_n dL_570 3 rfl ?_
  refine am_iload_n dL_571 0 rfl ?_
  refine am_iconst (v := 1) dL_572 (by decide) ?_
  refine am_iadd dL_573 ?_
  refine am_sld dL_574 (lw_in (j := 1) hi hL (by decide)) ?_
  refine am_callV (As := [.int (gX G (nI (6 * n) + 1).toNatClampNeg)]) (rest := []) dL_575 kML_76 rfl hc0 rfl rfl (Nat.le_of_ble_eq_true rfl) (d2 := d1) (by omega) (k2 := k1) (by omega) (u2 := u1) (by omega) (Nat.le_of_ble_eq_true rfl) C6 (fun v h1 q => ?_)
  obtain ⟨x1, rfl, ⟨fs, hc1⟩, Q2, C7, hq2⟩ := hq v h1 q
  refine am_aload_n dL_578 1 rfl ?_
  refine am_aload_n dL_579 3 rfl ?_
  refine am_iload_n dL_580 0 rfl ?_
  refine am_iconst (v := 1) dL_581 (by decide) ?_
  refine am_iadd dL_582 ?_
  refine am_sld dL_583 (lw_in (j := 1) hi hL (by decide)) ?_
  refine am_callV (As := [.int (gX G (nI (6 * n) + 1).toNatClampNeg)]) (rest := [.int x1]) dL_584 kML_79 rfl hc1 rfl rfl (Nat.le_of_ble_eq_true rfl) (d2 := d2) (by omega) (k2 := 0) (Nat.zero_le _) (u2 := 0) (Nat.zero_le _) (Nat.le_of_ble_eq_true rfl) C7 (fun v2 h2 q2 => ?_)
  obtain ⟨rfl, H2⟩ := hq2 v2 h2 q2
  refine am_icmp_eq dL_587 (by decide : ((587 : Nat) : Int) + 1089 = ((1676 : Nat) : Int)) (fun _ => ?_) (fun hh => absurd rfl hh)
  exact tr_wk (by omega) (by omega) (kk h2 H2)
theorem lw_c16 {l : Launch} {G : GM} {n k u : Nat} {h : List va_E} {Q : Option Value → List va_E → Prop} (H : HZ G h n) (hn : n ≤ 511) (hi : 6 * n + 6 ≤ gL G) (hL : gL G ≤ 3072) (hk : 112 ≤ k) (hu : 8004 ≤ u) (kk : ∀ h1, HZ G h1 (n + 1) → Tr l G mL 22 (k - 112) (u - 8004) 1676 (lwV G n) [] h1 Q) : Tr l G mL 22 k u 592 (lwV G n) [] h Q := by
  obtain ⟨d1, d2, k1, u1, Q1, b1, b2, b3, b4, C6, hq⟩ := st_knitted (l := l) H (by omega) (gX G (nI (6 * n) + 1).toNatClampNeg)
  obtain ⟨f0, hc0⟩ := hz_c00 H
  refine am_aload_n dL_592 2 rfl ?_
  refine am_aload_n dL_593 3 rfl ?_
  refine am_iload_n dL_594 0 rfl ?_
  refine am_iconst (v := 1) dL_595 (by decide) ?_
  refine am_iadd dL_596 ?_
  refine am_sld dL_597 (lw_in (j := 1) hi hL (by decide)) ?_
  refine am_callV (As := [.int (gX G (nI (6 * n) + 1).toNatClampNeg)]) (rest := []) dL_598 kML_80 rfl hc0 rfl rfl (Nat.le_of_ble_eq_true rfl) (d2 := d1) (by omega) (k2 := k1) (by omega) (u2 := u1) (by omega) (Nat.le_of_ble_eq_true rfl) C6 (fun v h1 q => ?_)
  obtain ⟨x1, rfl, ⟨fs, hc1⟩, Q2, C7, hq2⟩ := hq v h1 q
  refine am_aload_n dL_601 1 rfl ?_
  refine am_aload_n dL_602 3 rfl ?_
  refine am_iload_n dL_603 0 rfl ?_
  refine am_iconst (v := 1) dL_604 (by decide) ?_
  refine am_iadd dL_605 ?_
  refine am_sld dL_606 (lw_in (j := 1) hi hL (by decide)) ?_
  refine am_callV (As := [.int (gX G (nI (6 * n) + 1).toNatClampNeg)]) (rest := [.int x1]) dL_607 kML_83 rfl hc1 rfl rfl (Nat.le_of_ble_eq_true rfl) (d2 := d2) (by omega) (k2 := 0) (Nat.zero_le _) (u2 := 0) (Nat.zero_le _) (Nat.le_of_ble_eq_true rfl) C7 (fun v2 h2 q2 => ?_)
  obtain ⟨rfl, H2⟩ := hq2 v2 h2 q2
  refine am_icmp_eq dL_610 (by decide : ((610 : Nat) : Int) + 1066 = ((1676 : Nat) : Int)) (fun _ => ?_) (fun hh => absurd rfl hh)
  exact tr_wk (by omega) (by omega) (kk h2 H2)
theorem lw_c17 {l : Launch} {G : GM} {n k u : Nat} {h : List va_E} {Q : Option Value → List va_E → Prop} (H : HZ G h n) (hn : n ≤ 511) (hi : 6 * n + 6 ≤ gL G) (hL : gL G ≤ 3072) (hk : 112 ≤ k) (hu : 8004 ≤ u) (kk : ∀ h1, HZ G h1 (n + 1) → Tr l G mL 22 (k - 112) (u - 8004) 1676 (lwV G n) [] h1 Q) : Tr l G mL 22 k u 615 (lwV G n) [] h Q := by
  obtain ⟨d1, d2, k1, u1, Q1, b1, b2, b3, b4, C6, hq⟩ := st_shade (l := l) H (by omega) (gX G (nI (6 * n) + 1).toNatClampNeg)
  obtain ⟨f0, hc0⟩ := hz_c00 H
  refine am_aload_n dL_615 2 rfl ?_
  refine am_aload_n dL_616 3 rfl ?_
  refine am_iload_n dL_617 0 rfl ?_
  refine am_iconst (v := 1) dL_618 (by decide) ?_
  refine am_iadd dL_619 ?_
  refine am_sld dL_620 (lw_in (j := 1) hi hL (by decide)) ?_
  refine am_callV (As := [.int (gX G (nI (6 * n) + 1).toNatClampNeg)]) (rest := []) dL_621 kML_84 rfl hc0 rfl rfl (Nat.le_of_ble_eq_true rfl) (d2 := d1) (by omega) (k2 := k1) (by omega) (u2 := u1) (by omega) (Nat.le_of_ble_eq_true rfl) C6 (fun v h1 q => ?_)
  obtain ⟨x1, rfl, ⟨fs, hc1⟩, Q2, C7, hq2⟩ := hq v h1 q
  refine am_aload_n dL_624 1 rfl ?_
  refine am_aload_n dL_625 3 rfl ?_
  refine am_iload_n dL_626 0 rfl ?_
  refine am_iconst (v := 1) dL_627 (by decide) ?_
  refine am_iadd dL_628 ?_
  refine am_sld dL_629 (lw_in (j := 1) hi hL (by decide)) ?_
  refine am_callV (As := [.int (gX G (nI (6 * n) + 1).toNatClampNeg)]) (rest := [.int x1]) dL_630 kML_87 rfl hc1 rfl rfl (Nat.le_of_ble_eq_true rfl) (d2 := d2) (by omega) (k2 := 0) (Nat.zero_le _) (u2 := 0) (Nat.zero_le _) (Nat.le_of_ble_eq_true rfl) C7 (fun v2 h2 q2 => ?_)
  obtain ⟨rfl, H2⟩ := hq2 v2 h2 q2
  refine am_icmp_eq dL_633 (by decide : ((633 : Nat) : Int) + 1043 = ((1676 : Nat) : Int)) (fun _ => ?_) (fun hh => absurd rfl hh)
  exact tr_wk (by omega) (by omega) (kk h2 H2)
theorem lw_c18 {l : Launch} {G : GM} {n k u : Nat} {h : List va_E} {Q : Option Value → List va_E → Prop} (H : HZ G h n) (hn : n ≤ 511) (hi : 6 * n + 6 ≤ gL G) (hL : gL G ≤ 3072) (hk : 112 ≤ k) (hu : 8004 ≤ u) (kk : ∀ h1, HZ G h1 (n + 1) → Tr l G mL 22 (k - 112) (u - 8004) 1676 (lwV G n) [] h1 Q) : Tr l G mL 22 k u 638 (lwV G n) [] h Q := by
  obtain ⟨d1, d2, k1, u1, Q1, b1, b2, b3, b4, C6, hq⟩ := st_yarnOf (l := l) H (by omega) (gX G (nI (6 * n) + 1).toNatClampNeg)
  obtain ⟨f0, hc0⟩ := hz_c00 H
  refine am_aload_n dL_638 2 rfl ?_
  refine am_aload_n dL_639 3 rfl ?_
  refine am_iload_n dL_640 0 rfl ?_
  refine am_iconst (v := 1) dL_641 (by decide) ?_
  refine am_iadd dL_642 ?_
  refine am_sld dL_643 (lw_in (j := 1) hi hL (by decide)) ?_
  refine am_callV (As := [.int (gX G (nI (6 * n) + 1).toNatClampNeg)]) (rest := []) dL_644 kML_88 rfl hc0 rfl rfl (Nat.le_of_ble_eq_true rfl) (d2 := d1) (by omega) (k2 := k1) (by omega) (u2 := u1) (by omega) (Nat.le_of_ble_eq_true rfl) C6 (fun v h1 q => ?_)
  obtain ⟨x1, rfl, ⟨fs, hc1⟩, Q2, C7, hq2⟩ := hq v h1 q
  refine am_aload_n dL_647 1 rfl ?_
  refine am_aload_n dL_648 3 rfl ?_
  refine am_iload_n dL_649 0 rfl ?_
  refine am_iconst (v := 1) dL_650 (by decide) ?_
  refine am_iadd dL_651 ?_
  refine am_sld dL_652 (lw_in (j := 1) hi hL (by decide)) ?_
  refine am_callV (As := [.int (gX G (nI (6 * n) + 1).toNatClampNeg)]) (rest := [.int x1]) dL_653 kML_91 rfl hc1 rfl rfl (Nat.le_of_ble_eq_true rfl) (d2 := d2) (by omega) (k2 := 0) (Nat.zero_le _) (u2 := 0) (Nat.zero_le _) (Nat.le_of_ble_eq_true rfl) C7 (fun v2 h2 q2 => ?_)
  obtain ⟨rfl, H2⟩ := hq2 v2 h2 q2
  refine am_icmp_eq dL_656 (by decide : ((656 : Nat) : Int) + 1020 = ((1676 : Nat) : Int)) (fun _ => ?_) (fun hh => absurd rfl hh)
  exact tr_wk (by omega) (by omega) (kk h2 H2)
theorem lw_c19 {l : Launch} {G : GM} {n k u : Nat} {h : List va_E} {Q : Option Value → List va_E → Prop} (H : HZ G h n) (hn : n ≤ 511) (hi : 6 * n + 6 ≤ gL G) (hL : gL G ≤ 3072) (hk : 112 ≤ k) (hu : 8004 ≤ u) (kk : ∀ h1, HZ G h1 (n + 1) → Tr l G mL 22 (k - 112) (u - 8004) 1676 (lwV G n) [] h1 Q) : Tr l G mL 22 k u 661 (lwV G n) [] h Q := by
  obtain ⟨d1, d2, k1, u1, Q1, b1, b2, b3, b4, C6, hq⟩ := st_kindOf (l := l) H (by omega) (gX G (nI (6 * n) + 1).toNatClampNeg)
  obtain ⟨f0, hc0⟩ := hz_c00 H
  refine am_aload_n dL_661 2 rfl ?_
  refine am_aload_n dL_662 3 rfl ?_
  refine am_iload_n dL_663 0 rfl ?_
  refine am_iconst (v := 1) dL_664 (by decide) ?_
  refine am_iadd dL_665 ?_
  refine am_sld dL_666 (lw_in (j := 1) hi hL (by decide)) ?_
  refine am_callV (As := [.int (gX G (nI (6 * n) + 1).toNatClampNeg)]) (rest := []) dL_667 kML_92 rfl hc0 rfl rfl (Nat.le_of_ble_eq_true rfl) (d2 := d1) (by omega) (k2 := k1) (by omega) (u2 := u1) (by omega) (Nat.le_of_ble_eq_true rfl) C6 (fun v h1 q => ?_)
  obtain ⟨x1, rfl, ⟨fs, hc1⟩, Q2, C7, hq2⟩ := hq v h1 q
  refine am_aload_n dL_670 1 rfl ?_
  refine am_aload_n dL_671 3 rfl ?_
  refine am_iload_n dL_672 0 rfl ?_
  refine am_iconst (v := 1) dL_673 (by decide) ?_
  refine am_iadd dL_674 ?_
  refine am_sld dL_675 (lw_in (j := 1) hi hL (by decide)) ?_
  refine am_callV (As := [.int (gX G (nI (6 * n) + 1).toNatClampNeg)]) (rest := [.int x1]) dL_676 kML_95 rfl hc1 rfl rfl (Nat.le_of_ble_eq_true rfl) (d2 := d2) (by omega) (k2 := 0) (Nat.zero_le _) (u2 := 0) (Nat.zero_le _) (Nat.le_of_ble_eq_true rfl) C7 (fun v2 h2 q2 => ?_)
  obtain ⟨rfl, H2⟩ := hq2 v2 h2 q2
  refine am_icmp_eq dL_679 (by decide : ((679 : Nat) : Int) + 997 = ((1676 : Nat) : Int)) (fun _ => ?_) (fun hh => absurd rfl hh)
  exact tr_wk (by omega) (by omega) (kk h2 H2)
theorem lw_c20 {l : Launch} {G : GM} {n k u : Nat} {h : List va_E} {Q : Option Value → List va_E → Prop} (H : HZ G h n) (hn : n ≤ 511) (hi : 6 * n + 6 ≤ gL G) (hL : gL G ≤ 3072) (hk : 112 ≤ k) (hu : 8004 ≤ u) (kk : ∀ h1, HZ G h1 (n + 1) → Tr l G mL 22 (k - 112) (u - 8004) 1676 (lwV G n) [] h1 Q) : Tr l G mL 22 k u 684 (lwV G n) [] h Q := by
  obtain ⟨d1, d2, k1, u1, Q1, b1, b2, b3, b4, C6, hq⟩ := st_state (l := l) H (by omega) (gX G (nI (6 * n) + 1).toNatClampNeg)
  obtain ⟨f0, hc0⟩ := hz_c00 H
  refine am_aload_n dL_684 2 rfl ?_
  refine am_aload_n dL_685 3 rfl ?_
  refine am_iload_n dL_686 0 rfl ?_
  refine am_iconst (v := 1) dL_687 (by decide) ?_
  refine am_iadd dL_688 ?_
  refine am_sld dL_689 (lw_in (j := 1) hi hL (by decide)) ?_
  refine am_callV (As := [.int (gX G (nI (6 * n) + 1).toNatClampNeg)]) (rest := []) dL_690 kML_96 rfl hc0 rfl rfl (Nat.le_of_ble_eq_true rfl) (d2 := d1) (by omega) (k2 := k1) (by omega) (u2 := u1) (by omega) (Nat.le_of_ble_eq_true rfl) C6 (fun v h1 q => ?_)
  obtain ⟨x1, rfl, ⟨fs, hc1⟩, Q2, C7, hq2⟩ := hq v h1 q
  refine am_aload_n dL_693 1 rfl ?_
  refine am_aload_n dL_694 3 rfl ?_
  refine am_iload_n dL_695 0 rfl ?_
  refine am_iconst (v := 1) dL_696 (by decide) ?_
  refine am_iadd dL_697 ?_
  refine am_sld dL_698 (lw_in (j := 1) hi hL (by decide)) ?_
  refine am_callV (As := [.int (gX G (nI (6 * n) + 1).toNatClampNeg)]) (rest := [.int x1]) dL_699 kML_99 rfl hc1 rfl rfl (Nat.le_of_ble_eq_true rfl) (d2 := d2) (by omega) (k2 := 0) (Nat.zero_le _) (u2 := 0) (Nat.zero_le _) (Nat.le_of_ble_eq_true rfl) C7 (fun v2 h2 q2 => ?_)
  obtain ⟨rfl, H2⟩ := hq2 v2 h2 q2
  refine am_icmp_eq dL_702 (by decide : ((702 : Nat) : Int) + 974 = ((1676 : Nat) : Int)) (fun _ => ?_) (fun hh => absurd rfl hh)
  exact tr_wk (by omega) (by omega) (kk h2 H2)
theorem lw_c21 {l : Launch} {G : GM} {n k u : Nat} {h : List va_E} {Q : Option Value → List va_E → Prop} (H : HZ G h n) (hn : n ≤ 511) (hi : 6 * n + 6 ≤ gL G) (hL : gL G ≤ 3072) (hk : 112 ≤ k) (hu : 8004 ≤ u) (kk : ∀ h1, HZ G h1 (n + 1) → Tr l G mL 22 (k - 112) (u - 8004) 1676 (lwV G n) [] h1 Q) : Tr l G mL 22 k u 707 (lwV G n) [] h Q := by
  obtain ⟨d1, d2, k1, u1, Q1, b1, b2, b3, b4, C6, hq⟩ := st_inState (l := l) H (by omega) (gX G (nI (6 * n) + 1).toNatClampNeg)
  obtain ⟨f0, hc0⟩ := hz_c00 H
  refine am_aload_n dL_707 2 rfl ?_
  refine am_aload_n dL_708 3 rfl ?_
  refine am_iload_n dL_709 0 rfl ?_
  refine am_iconst (v := 1) dL_710 (by decide) ?_
  refine am_iadd dL_711 ?_
  refine am_sld dL_712 (lw_in (j := 1) hi hL (by decide)) ?_
  refine am_callV (As := [.int (gX G (nI (6 * n) + 1).toNatClampNeg)]) (rest := []) dL_713 kML_100 rfl hc0 rfl rfl (Nat.le_of_ble_eq_true rfl) (d2 := d1) (by omega) (k2 := k1) (by omega) (u2 := u1) (by omega) (Nat.le_of_ble_eq_true rfl) C6 (fun v h1 q => ?_)
  obtain ⟨x1, rfl, ⟨fs, hc1⟩, Q2, C7, hq2⟩ := hq v h1 q
  refine am_aload_n dL_716 1 rfl ?_
  refine am_aload_n dL_717 3 rfl ?_
  refine am_iload_n dL_718 0 rfl ?_
  refine am_iconst (v := 1) dL_719 (by decide) ?_
  refine am_iadd dL_720 ?_
  refine am_sld dL_721 (lw_in (j := 1) hi hL (by decide)) ?_
  refine am_callV (As := [.int (gX G (nI (6 * n) + 1).toNatClampNeg)]) (rest := [.int x1]) dL_722 kML_103 rfl hc1 rfl rfl (Nat.le_of_ble_eq_true rfl) (d2 := d2) (by omega) (k2 := 0) (Nat.zero_le _) (u2 := 0) (Nat.zero_le _) (Nat.le_of_ble_eq_true rfl) C7 (fun v2 h2 q2 => ?_)
  obtain ⟨rfl, H2⟩ := hq2 v2 h2 q2
  refine am_icmp_eq dL_725 (by decide : ((725 : Nat) : Int) + 951 = ((1676 : Nat) : Int)) (fun _ => ?_) (fun hh => absurd rfl hh)
  exact tr_wk (by omega) (by omega) (kk h2 H2)
theorem lw_c22 {l : Launch} {G : GM} {n k u : Nat} {h : List va_E} {Q : Option Value → List va_E → Prop} (H : HZ G h n) (hn : n ≤ 511) (hi : 6 * n + 6 ≤ gL G) (hL : gL G ≤ 3072) (hk : 112 ≤ k) (hu : 8004 ≤ u) (kk : ∀ h1, HZ G h1 (n + 1) → Tr l G mL 22 (k - 112) (u - 8004) 1676 (lwV G n) [] h1 Q) : Tr l G mL 22 k u 730 (lwV G n) [] h Q := by
  obtain ⟨d1, d2, k1, u1, Q1, b1, b2, b3, b4, C6, hq⟩ := st_stretchLimit (l := l) H (by omega) (gX G (nI (6 * n) + 1).toNatClampNeg)
  obtain ⟨f0, hc0⟩ := hz_c00 H
  refine am_aload_n dL_730 2 rfl ?_
  refine am_aload_n dL_731 3 rfl ?_
  refine am_iload_n dL_732 0 rfl ?_
  refine am_iconst (v := 1) dL_733 (by decide) ?_
  refine am_iadd dL_734 ?_
  refine am_sld dL_735 (lw_in (j := 1) hi hL (by decide)) ?_
  refine am_callV (As := [.int (gX G (nI (6 * n) + 1).toNatClampNeg)]) (rest := []) dL_736 kML_104 rfl hc0 rfl rfl (Nat.le_of_ble_eq_true rfl) (d2 := d1) (by omega) (k2 := k1) (by omega) (u2 := u1) (by omega) (Nat.le_of_ble_eq_true rfl) C6 (fun v h1 q => ?_)
  obtain ⟨x1, rfl, ⟨fs, hc1⟩, Q2, C7, hq2⟩ := hq v h1 q
  refine am_aload_n dL_739 1 rfl ?_
  refine am_aload_n dL_740 3 rfl ?_
  refine am_iload_n dL_741 0 rfl ?_
  refine am_iconst (v := 1) dL_742 (by decide) ?_
  refine am_iadd dL_743 ?_
  refine am_sld dL_744 (lw_in (j := 1) hi hL (by decide)) ?_
  refine am_callV (As := [.int (gX G (nI (6 * n) + 1).toNatClampNeg)]) (rest := [.int x1]) dL_745 kML_107 rfl hc1 rfl rfl (Nat.le_of_ble_eq_true rfl) (d2 := d2) (by omega) (k2 := 0) (Nat.zero_le _) (u2 := 0) (Nat.zero_le _) (Nat.le_of_ble_eq_true rfl) C7 (fun v2 h2 q2 => ?_)
  obtain ⟨rfl, H2⟩ := hq2 v2 h2 q2
  refine am_icmp_eq dL_748 (by decide : ((748 : Nat) : Int) + 928 = ((1676 : Nat) : Int)) (fun _ => ?_) (fun hh => absurd rfl hh)
  exact tr_wk (by omega) (by omega) (kk h2 H2)
theorem lw_c23 {l : Launch} {G : GM} {n k u : Nat} {h : List va_E} {Q : Option Value → List va_E → Prop} (H : HZ G h n) (hn : n ≤ 511) (hi : 6 * n + 6 ≤ gL G) (hL : gL G ≤ 3072) (hk : 112 ≤ k) (hu : 8004 ≤ u) (kk : ∀ h1, HZ G h1 (n + 1) → Tr l G mL 22 (k - 112) (u - 8004) 1676 (lwV G n) [] h1 Q) : Tr l G mL 22 k u 753 (lwV G n) [] h Q := by
  obtain ⟨d1, d2, k1, u1, Q1, b1, b2, b3, b4, C6, hq⟩ := st_longestShape (l := l) H (by omega) (gX G (nI (6 * n) + 1).toNatClampNeg)
  obtain ⟨f0, hc0⟩ := hz_c00 H
  refine am_aload_n dL_753 2 rfl ?_
  refine am_aload_n dL_754 3 rfl ?_
  refine am_iload_n dL_755 0 rfl ?_
  refine am_iconst (v := 1) dL_756 (by decide) ?_
  refine am_iadd dL_757 ?_
  refine am_sld dL_758 (lw_in (j := 1) hi hL (by decide)) ?_
  refine am_callV (As := [.int (gX G (nI (6 * n) + 1).toNatClampNeg)]) (rest := []) dL_759 kML_108 rfl hc0 rfl rfl (Nat.le_of_ble_eq_true rfl) (d2 := d1) (by omega) (k2 := k1) (by omega) (u2 := u1) (by omega) (Nat.le_of_ble_eq_true rfl) C6 (fun v h1 q => ?_)
  obtain ⟨x1, rfl, ⟨fs, hc1⟩, Q2, C7, hq2⟩ := hq v h1 q
  refine am_aload_n dL_762 1 rfl ?_
  refine am_aload_n dL_763 3 rfl ?_
  refine am_iload_n dL_764 0 rfl ?_
  refine am_iconst (v := 1) dL_765 (by decide) ?_
  refine am_iadd dL_766 ?_
  refine am_sld dL_767 (lw_in (j := 1) hi hL (by decide)) ?_
  refine am_callV (As := [.int (gX G (nI (6 * n) + 1).toNatClampNeg)]) (rest := [.int x1]) dL_768 kML_111 rfl hc1 rfl rfl (Nat.le_of_ble_eq_true rfl) (d2 := d2) (by omega) (k2 := 0) (Nat.zero_le _) (u2 := 0) (Nat.zero_le _) (Nat.le_of_ble_eq_true rfl) C7 (fun v2 h2 q2 => ?_)
  obtain ⟨rfl, H2⟩ := hq2 v2 h2 q2
  refine am_icmp_eq dL_771 (by decide : ((771 : Nat) : Int) + 905 = ((1676 : Nat) : Int)) (fun _ => ?_) (fun hh => absurd rfl hh)
  exact tr_wk (by omega) (by omega) (kk h2 H2)
theorem lw_c24 {l : Launch} {G : GM} {n k u : Nat} {h : List va_E} {Q : Option Value → List va_E → Prop} (H : HZ G h n) (hn : n ≤ 511) (hi : 6 * n + 6 ≤ gL G) (hL : gL G ≤ 3072) (hk : 112 ≤ k) (hu : 8004 ≤ u) (kk : ∀ h1, HZ G h1 (n + 1) → Tr l G mL 22 (k - 112) (u - 8004) 1676 (lwV G n) [] h1 Q) : Tr l G mL 22 k u 776 (lwV G n) [] h Q := by
  obtain ⟨d1, d2, k1, u1, Q1, b1, b2, b3, b4, C6, hq⟩ := st_ifBoarded (l := l) H (by omega) (gX G (nI (6 * n) + 1).toNatClampNeg) (gX G (nI (6 * n) + 2).toNatClampNeg)
  obtain ⟨f0, hc0⟩ := hz_c00 H
  refine am_aload_n dL_776 2 rfl ?_
  refine am_aload_n dL_777 3 rfl ?_
  refine am_iload_n dL_778 0 rfl ?_
  refine am_iconst (v := 1) dL_779 (by decide) ?_
  refine am_iadd dL_780 ?_
  refine am_sld dL_781 (lw_in (j := 1) hi hL (by decide)) ?_
  refine am_aload_n dL_782 3 rfl ?_
  refine am_iload_n dL_783 0 rfl ?_
  refine am_iconst (v := 2) dL_784 (by decide) ?_
  refine am_iadd dL_785 ?_
  refine am_sld dL_786 (lw_in (j := 2) hi hL (by decide)) ?_
  refine am_callV (As := [.int (gX G (nI (6 * n) + 1).toNatClampNeg), .int (gX G (nI (6 * n) + 2).toNatClampNeg)]) (rest := []) dL_787 kML_112 rfl hc0 rfl rfl (Nat.le_of_ble_eq_true rfl) (d2 := d1) (by omega) (k2 := k1) (by omega) (u2 := u1) (by omega) (Nat.le_of_ble_eq_true rfl) C6 (fun v h1 q => ?_)
  obtain ⟨x1, rfl, ⟨fs, hc1⟩, Q2, C7, hq2⟩ := hq v h1 q
  refine am_aload_n dL_790 1 rfl ?_
  refine am_aload_n dL_791 3 rfl ?_
  refine am_iload_n dL_792 0 rfl ?_
  refine am_iconst (v := 1) dL_793 (by decide) ?_
  refine am_iadd dL_794 ?_
  refine am_sld dL_795 (lw_in (j := 1) hi hL (by decide)) ?_
  refine am_aload_n dL_796 3 rfl ?_
  refine am_iload_n dL_797 0 rfl ?_
  refine am_iconst (v := 2) dL_798 (by decide) ?_
  refine am_iadd dL_799 ?_
  refine am_sld dL_800 (lw_in (j := 2) hi hL (by decide)) ?_
  refine am_callV (As := [.int (gX G (nI (6 * n) + 1).toNatClampNeg), .int (gX G (nI (6 * n) + 2).toNatClampNeg)]) (rest := [.int x1]) dL_801 kML_116 rfl hc1 rfl rfl (Nat.le_of_ble_eq_true rfl) (d2 := d2) (by omega) (k2 := 0) (Nat.zero_le _) (u2 := 0) (Nat.zero_le _) (Nat.le_of_ble_eq_true rfl) C7 (fun v2 h2 q2 => ?_)
  obtain ⟨rfl, H2⟩ := hq2 v2 h2 q2
  refine am_icmp_eq dL_804 (by decide : ((804 : Nat) : Int) + 872 = ((1676 : Nat) : Int)) (fun _ => ?_) (fun hh => absurd rfl hh)
  exact tr_wk (by omega) (by omega) (kk h2 H2)
theorem lw_c25 {l : Launch} {G : GM} {n k u : Nat} {h : List va_E} {Q : Option Value → List va_E → Prop} (H : HZ G h n) (hn : n ≤ 511) (hi : 6 * n + 6 ≤ gL G) (hL : gL G ≤ 3072) (hk : 112 ≤ k) (hu : 8004 ≤ u) (kk : ∀ h1, HZ G h1 (n + 1) → Tr l G mL 22 (k - 112) (u - 8004) 1676 (lwV G n) [] h1 Q) : Tr l G mL 22 k u 809 (lwV G n) [] h Q := by
  obtain ⟨d1, d2, k1, u1, Q1, b1, b2, b3, b4, C6, hq⟩ := st_sizeOf (l := l) H (by omega) (gX G (nI (6 * n) + 1).toNatClampNeg)
  obtain ⟨f0, hc0⟩ := hz_c00 H
  refine am_aload_n dL_809 2 rfl ?_
  refine am_aload_n dL_810 3 rfl ?_
  refine am_iload_n dL_811 0 rfl ?_
  refine am_iconst (v := 1) dL_812 (by decide) ?_
  refine am_iadd dL_813 ?_
  refine am_sld dL_814 (lw_in (j := 1) hi hL (by decide)) ?_
  refine am_callV (As := [.int (gX G (nI (6 * n) + 1).toNatClampNeg)]) (rest := []) dL_815 kML_117 rfl hc0 rfl rfl (Nat.le_of_ble_eq_true rfl) (d2 := d1) (by omega) (k2 := k1) (by omega) (u2 := u1) (by omega) (Nat.le_of_ble_eq_true rfl) C6 (fun v h1 q => ?_)
  obtain ⟨x1, rfl, ⟨fs, hc1⟩, Q2, C7, hq2⟩ := hq v h1 q
  refine am_aload_n dL_818 1 rfl ?_
  refine am_aload_n dL_819 3 rfl ?_
  refine am_iload_n dL_820 0 rfl ?_
  refine am_iconst (v := 1) dL_821 (by decide) ?_
  refine am_iadd dL_822 ?_
  refine am_sld dL_823 (lw_in (j := 1) hi hL (by decide)) ?_
  refine am_callV (As := [.int (gX G (nI (6 * n) + 1).toNatClampNeg)]) (rest := [.int x1]) dL_824 kML_120 rfl hc1 rfl rfl (Nat.le_of_ble_eq_true rfl) (d2 := d2) (by omega) (k2 := 0) (Nat.zero_le _) (u2 := 0) (Nat.zero_le _) (Nat.le_of_ble_eq_true rfl) C7 (fun v2 h2 q2 => ?_)
  obtain ⟨rfl, H2⟩ := hq2 v2 h2 q2
  refine am_icmp_eq dL_827 (by decide : ((827 : Nat) : Int) + 849 = ((1676 : Nat) : Int)) (fun _ => ?_) (fun hh => absurd rfl hh)
  exact tr_wk (by omega) (by omega) (kk h2 H2)
theorem lw_c26 {l : Launch} {G : GM} {n k u : Nat} {h : List va_E} {Q : Option Value → List va_E → Prop} (H : HZ G h n) (hn : n ≤ 511) (hi : 6 * n + 6 ≤ gL G) (hL : gL G ≤ 3072) (hk : 112 ≤ k) (hu : 8004 ≤ u) (kk : ∀ h1, HZ G h1 (n + 1) → Tr l G mL 22 (k - 112) (u - 8004) 1676 (lwV G n) [] h1 Q) : Tr l G mL 22 k u 832 (lwV G n) [] h Q := by
  obtain ⟨d1, d2, k1, u1, Q1, b1, b2, b3, b4, C6, hq⟩ := st_ofSize (l := l) H (by omega) (gX G (nI (6 * n) + 1).toNatClampNeg)
  obtain ⟨f0, hc0⟩ := hz_c00 H
  refine am_aload_n dL_832 2 rfl ?_
  refine am_aload_n dL_833 3 rfl ?_
  refine am_iload_n dL_834 0 rfl ?_
  refine am_iconst (v := 1) dL_835 (by decide) ?_
  refine am_iadd dL_836 ?_
  refine am_sld dL_837 (lw_in (j := 1) hi hL (by decide)) ?_
  refine am_callV (As := [.int (gX G (nI (6 * n) + 1).toNatClampNeg)]) (rest := []) dL_838 kML_121 rfl hc0 rfl rfl (Nat.le_of_ble_eq_true rfl) (d2 := d1) (by omega) (k2 := k1) (by omega) (u2 := u1) (by omega) (Nat.le_of_ble_eq_true rfl) C6 (fun v h1 q => ?_)
  obtain ⟨x1, rfl, ⟨fs, hc1⟩, Q2, C7, hq2⟩ := hq v h1 q
  refine am_aload_n dL_841 1 rfl ?_
  refine am_aload_n dL_842 3 rfl ?_
  refine am_iload_n dL_843 0 rfl ?_
  refine am_iconst (v := 1) dL_844 (by decide) ?_
  refine am_iadd dL_845 ?_
  refine am_sld dL_846 (lw_in (j := 1) hi hL (by decide)) ?_
  refine am_callV (As := [.int (gX G (nI (6 * n) + 1).toNatClampNeg)]) (rest := [.int x1]) dL_847 kML_124 rfl hc1 rfl rfl (Nat.le_of_ble_eq_true rfl) (d2 := d2) (by omega) (k2 := 0) (Nat.zero_le _) (u2 := 0) (Nat.zero_le _) (Nat.le_of_ble_eq_true rfl) C7 (fun v2 h2 q2 => ?_)
  obtain ⟨rfl, H2⟩ := hq2 v2 h2 q2
  refine am_icmp_eq dL_850 (by decide : ((850 : Nat) : Int) + 826 = ((1676 : Nat) : Int)) (fun _ => ?_) (fun hh => absurd rfl hh)
  exact tr_wk (by omega) (by omega) (kk h2 H2)
theorem lw_c27 {l : Launch} {G : GM} {n k u : Nat} {h : List va_E} {Q : Option Value → List va_E → Prop} (H : HZ G h n) (hn : n ≤ 511) (hi : 6 * n + 6 ≤ gL G) (hL : gL G ≤ 3072) (hk : 112 ≤ k) (hu : 8004 ≤ u) (kk : ∀ h1, HZ G h1 (n + 1) → Tr l G mL 22 (k - 112) (u - 8004) 1676 (lwV G n) [] h1 Q) : Tr l G mL 22 k u 855 (lwV G n) [] h Q := by
  obtain ⟨d1, d2, k1, u1, Q1, b1, b2, b3, b4, C6, hq⟩ := st_sorted (l := l) H (by omega) (gX G (nI (6 * n) + 1).toNatClampNeg)
  obtain ⟨f0, hc0⟩ := hz_c00 H
  refine am_aload_n dL_855 2 rfl ?_
  refine am_aload_n dL_856 3 rfl ?_
  refine am_iload_n dL_857 0 rfl ?_
  refine am_iconst (v := 1) dL_858 (by decide) ?_
  refine am_iadd dL_859 ?_
  refine am_sld dL_860 (lw_in (j := 1) hi hL (by decide)) ?_
  refine am_callV (As := [.int (gX G (nI (6 * n) + 1).toNatClampNeg)]) (rest := []) dL_861 kML_125 rfl hc0 rfl rfl (Nat.le_of_ble_eq_true rfl) (d2 := d1) (by omega) (k2 := k1) (by omega) (u2 := u1) (by omega) (Nat.le_of_ble_eq_true rfl) C6 (fun v h1 q => ?_)
  obtain ⟨x1, rfl, ⟨fs, hc1⟩, Q2, C7, hq2⟩ := hq v h1 q
  refine am_aload_n dL_864 1 rfl ?_
  refine am_aload_n dL_865 3 rfl ?_
  refine am_iload_n dL_866 0 rfl ?_
  refine am_iconst (v := 1) dL_867 (by decide) ?_
  refine am_iadd dL_868 ?_
  refine am_sld dL_869 (lw_in (j := 1) hi hL (by decide)) ?_
  refine am_callV (As := [.int (gX G (nI (6 * n) + 1).toNatClampNeg)]) (rest := [.int x1]) dL_870 kML_128 rfl hc1 rfl rfl (Nat.le_of_ble_eq_true rfl) (d2 := d2) (by omega) (k2 := 0) (Nat.zero_le _) (u2 := 0) (Nat.zero_le _) (Nat.le_of_ble_eq_true rfl) C7 (fun v2 h2 q2 => ?_)
  obtain ⟨rfl, H2⟩ := hq2 v2 h2 q2
  refine am_icmp_eq dL_873 (by decide : ((873 : Nat) : Int) + 803 = ((1676 : Nat) : Int)) (fun _ => ?_) (fun hh => absurd rfl hh)
  exact tr_wk (by omega) (by omega) (kk h2 H2)
theorem lw_c28 {l : Launch} {G : GM} {n k u : Nat} {h : List va_E} {Q : Option Value → List va_E → Prop} (H : HZ G h n) (hn : n ≤ 511) (hi : 6 * n + 6 ≤ gL G) (hL : gL G ≤ 3072) (hk : 112 ≤ k) (hu : 8004 ≤ u) (kk : ∀ h1, HZ G h1 (n + 1) → Tr l G mL 22 (k - 112) (u - 8004) 1676 (lwV G n) [] h1 Q) : Tr l G mL 22 k u 878 (lwV G n) [] h Q := by
  obtain ⟨d1, d2, k1, u1, Q1, b1, b2, b3, b4, C6, hq⟩ := st_lengthRange (l := l) H (by omega)
  obtain ⟨f0, hc0⟩ := hz_c00 H
  refine am_aload_n dL_878 2 rfl ?_
  refine am_callV (As := []) (rest := []) dL_879 kML_129 rfl hc0 rfl rfl (Nat.le_of_ble_eq_true rfl) (d2 := d1) (by omega) (k2 := k1) (by omega) (u2 := u1) (by omega) (Nat.le_of_ble_eq_true rfl) C6 (fun v h1 q => ?_)
  obtain ⟨x1, rfl, ⟨fs, hc1⟩, Q2, C7, hq2⟩ := hq v h1 q
  refine am_aload_n dL_882 1 rfl ?_
  refine am_callV (As := []) (rest := [.int x1]) dL_883 kML_132 rfl hc1 rfl rfl (Nat.le_of_ble_eq_true rfl) (d2 := d2) (by omega) (k2 := 0) (Nat.zero_le _) (u2 := 0) (Nat.zero_le _) (Nat.le_of_ble_eq_true rfl) C7 (fun v2 h2 q2 => ?_)
  obtain ⟨rfl, H2⟩ := hq2 v2 h2 q2
  refine am_icmp_eq dL_886 (by decide : ((886 : Nat) : Int) + 790 = ((1676 : Nat) : Int)) (fun _ => ?_) (fun hh => absurd rfl hh)
  exact tr_wk (by omega) (by omega) (kk h2 H2)
theorem lw_c29 {l : Launch} {G : GM} {n k u : Nat} {h : List va_E} {Q : Option Value → List va_E → Prop} (H : HZ G h n) (hn : n ≤ 511) (hi : 6 * n + 6 ≤ gL G) (hL : gL G ≤ 3072) (hk : 112 ≤ k) (hu : 8004 ≤ u) (kk : ∀ h1, HZ G h1 (n + 1) → Tr l G mL 22 (k - 112) (u - 8004) 1676 (lwV G n) [] h1 Q) : Tr l G mL 22 k u 891 (lwV G n) [] h Q := by
  obtain ⟨d1, d2, k1, u1, Q1, b1, b2, b3, b4, C6, hq⟩ := st_board (l := l) H (by omega) (gX G (nI (6 * n) + 1).toNatClampNeg) (gX G (nI (6 * n) + 2).toNatClampNeg)
  obtain ⟨f0, hc0⟩ := hz_c00 H
  refine am_aload_n dL_891 2 rfl ?_
  refine am_aload_n dL_892 3 rfl ?_
  refine am_iload_n dL_893 0 rfl ?_
  refine am_iconst (v := 1) dL_894 (by decide) ?_
  refine am_iadd dL_895 ?_
  refine am_sld dL_896 (lw_in (j := 1) hi hL (by decide)) ?_
  refine am_aload_n dL_897 3 rfl ?_
  refine am_iload_n dL_898 0 rfl ?_
  refine am_iconst (v := 2) dL_899 (by decide) ?_
  refine am_iadd dL_900 ?_
  refine am_sld dL_901 (lw_in (j := 2) hi hL (by decide)) ?_
  refine am_callV (As := [.int (gX G (nI (6 * n) + 1).toNatClampNeg), .int (gX G (nI (6 * n) + 2).toNatClampNeg)]) (rest := []) dL_902 kML_133 rfl hc0 rfl rfl (Nat.le_of_ble_eq_true rfl) (d2 := d1) (by omega) (k2 := k1) (by omega) (u2 := u1) (by omega) (Nat.le_of_ble_eq_true rfl) C6 (fun v h1 q => ?_)
  obtain ⟨x1, rfl, ⟨fs, hc1⟩, Q2, C7, hq2⟩ := hq v h1 q
  refine am_aload_n dL_905 1 rfl ?_
  refine am_aload_n dL_906 3 rfl ?_
  refine am_iload_n dL_907 0 rfl ?_
  refine am_iconst (v := 1) dL_908 (by decide) ?_
  refine am_iadd dL_909 ?_
  refine am_sld dL_910 (lw_in (j := 1) hi hL (by decide)) ?_
  refine am_aload_n dL_911 3 rfl ?_
  refine am_iload_n dL_912 0 rfl ?_
  refine am_iconst (v := 2) dL_913 (by decide) ?_
  refine am_iadd dL_914 ?_
  refine am_sld dL_915 (lw_in (j := 2) hi hL (by decide)) ?_
  refine am_callV (As := [.int (gX G (nI (6 * n) + 1).toNatClampNeg), .int (gX G (nI (6 * n) + 2).toNatClampNeg)]) (rest := [.int x1]) dL_916 kML_136 rfl hc1 rfl rfl (Nat.le_of_ble_eq_true rfl) (d2 := d2) (by omega) (k2 := 0) (Nat.zero_le _) (u2 := 0) (Nat.zero_le _) (Nat.le_of_ble_eq_true rfl) C7 (fun v2 h2 q2 => ?_)
  obtain ⟨rfl, H2⟩ := hq2 v2 h2 q2
  refine am_icmp_eq dL_919 (by decide : ((919 : Nat) : Int) + 757 = ((1676 : Nat) : Int)) (fun _ => ?_) (fun hh => absurd rfl hh)
  exact tr_wk (by omega) (by omega) (kk h2 H2)
theorem lw_c30 {l : Launch} {G : GM} {n k u : Nat} {h : List va_E} {Q : Option Value → List va_E → Prop} (H : HZ G h n) (hn : n ≤ 511) (hi : 6 * n + 6 ≤ gL G) (hL : gL G ≤ 3072) (hk : 112 ≤ k) (hu : 8004 ≤ u) (kk : ∀ h1, HZ G h1 (n + 1) → Tr l G mL 22 (k - 112) (u - 8004) 1676 (lwV G n) [] h1 Q) : Tr l G mL 22 k u 924 (lwV G n) [] h Q := by
  obtain ⟨d1, d2, k1, u1, Q1, b1, b2, b3, b4, C6, hq⟩ := st_boardAll (l := l) H (by omega) (gX G (nI (6 * n) + 1).toNatClampNeg)
  obtain ⟨f0, hc0⟩ := hz_c00 H
  refine am_aload_n dL_924 2 rfl ?_
  refine am_aload_n dL_925 3 rfl ?_
  refine am_iload_n dL_926 0 rfl ?_
  refine am_iconst (v := 1) dL_927 (by decide) ?_
  refine am_iadd dL_928 ?_
  refine am_sld dL_929 (lw_in (j := 1) hi hL (by decide)) ?_
  refine am_callV (As := [.int (gX G (nI (6 * n) + 1).toNatClampNeg)]) (rest := []) dL_930 kML_137 rfl hc0 rfl rfl (Nat.le_of_ble_eq_true rfl) (d2 := d1) (by omega) (k2 := k1) (by omega) (u2 := u1) (by omega) (Nat.le_of_ble_eq_true rfl) C6 (fun v h1 q => ?_)
  obtain ⟨x1, rfl, ⟨fs, hc1⟩, Q2, C7, hq2⟩ := hq v h1 q
  refine am_aload_n dL_933 1 rfl ?_
  refine am_aload_n dL_934 3 rfl ?_
  refine am_iload_n dL_935 0 rfl ?_
  refine am_iconst (v := 1) dL_936 (by decide) ?_
  refine am_iadd dL_937 ?_
  refine am_sld dL_938 (lw_in (j := 1) hi hL (by decide)) ?_
  refine am_callV (As := [.int (gX G (nI (6 * n) + 1).toNatClampNeg)]) (rest := [.int x1]) dL_939 kML_140 rfl hc1 rfl rfl (Nat.le_of_ble_eq_true rfl) (d2 := d2) (by omega) (k2 := 0) (Nat.zero_le _) (u2 := 0) (Nat.zero_le _) (Nat.le_of_ble_eq_true rfl) C7 (fun v2 h2 q2 => ?_)
  obtain ⟨rfl, H2⟩ := hq2 v2 h2 q2
  refine am_icmp_eq dL_942 (by decide : ((942 : Nat) : Int) + 734 = ((1676 : Nat) : Int)) (fun _ => ?_) (fun hh => absurd rfl hh)
  exact tr_wk (by omega) (by omega) (kk h2 H2)
theorem lw_c31 {l : Launch} {G : GM} {n k u : Nat} {h : List va_E} {Q : Option Value → List va_E → Prop} (H : HZ G h n) (hn : n ≤ 511) (hi : 6 * n + 6 ≤ gL G) (hL : gL G ≤ 3072) (hk : 112 ≤ k) (hu : 8004 ≤ u) (kk : ∀ h1, HZ G h1 (n + 1) → Tr l G mL 22 (k - 112) (u - 8004) 1676 (lwV G n) [] h1 Q) : Tr l G mL 22 k u 947 (lwV G n) [] h Q := by
  obtain ⟨d1, d2, k1, u1, Q1, b1, b2, b3, b4, C6, hq⟩ := st_day (l := l) H (by omega)
  obtain ⟨f0, hc0⟩ := hz_c00 H
  refine am_aload_n dL_947 2 rfl ?_
  refine am_callV (As := []) (rest := []) dL_948 kML_141 rfl hc0 rfl rfl (Nat.le_of_ble_eq_true rfl) (d2 := d1) (by omega) (k2 := k1) (by omega) (u2 := u1) (by omega) (Nat.le_of_ble_eq_true rfl) C6 (fun v h1 q => ?_)
  obtain ⟨x1, rfl, ⟨fs, hc1⟩, Q2, C7, hq2⟩ := hq v h1 q
  refine am_aload_n dL_951 1 rfl ?_
  refine am_callV (As := []) (rest := [.int x1]) dL_952 kML_144 rfl hc1 rfl rfl (Nat.le_of_ble_eq_true rfl) (d2 := d2) (by omega) (k2 := 0) (Nat.zero_le _) (u2 := 0) (Nat.zero_le _) (Nat.le_of_ble_eq_true rfl) C7 (fun v2 h2 q2 => ?_)
  obtain ⟨rfl, H2⟩ := hq2 v2 h2 q2
  refine am_icmp_eq dL_955 (by decide : ((955 : Nat) : Int) + 721 = ((1676 : Nat) : Int)) (fun _ => ?_) (fun hh => absurd rfl hh)
  exact tr_wk (by omega) (by omega) (kk h2 H2)
theorem lw_c32 {l : Launch} {G : GM} {n k u : Nat} {h : List va_E} {Q : Option Value → List va_E → Prop} (H : HZ G h n) (hn : n ≤ 511) (hi : 6 * n + 6 ≤ gL G) (hL : gL G ≤ 3072) (hk : 112 ≤ k) (hu : 8004 ≤ u) (kk : ∀ h1, HZ G h1 (n + 1) → Tr l G mL 22 (k - 112) (u - 8004) 1676 (lwV G n) [] h1 Q) : Tr l G mL 22 k u 960 (lwV G n) [] h Q := by
  obtain ⟨d1, d2, k1, u1, Q1, b1, b2, b3, b4, C6, hq⟩ := st_dye (l := l) H (by omega) (gX G (nI (6 * n) + 1).toNatClampNeg) (gX G (nI (6 * n) + 2).toNatClampNeg)
  obtain ⟨f0, hc0⟩ := hz_c00 H
  refine am_aload_n dL_960 2 rfl ?_
  refine am_aload_n dL_961 3 rfl ?_
  refine am_iload_n dL_962 0 rfl ?_
  refine am_iconst (v := 1) dL_963 (by decide) ?_
  refine am_iadd dL_964 ?_
  refine am_sld dL_965 (lw_in (j := 1) hi hL (by decide)) ?_
  refine am_aload_n dL_966 3 rfl ?_
  refine am_iload_n dL_967 0 rfl ?_
  refine am_iconst (v := 2) dL_968 (by decide) ?_
  refine am_iadd dL_969 ?_
  refine am_sld dL_970 (lw_in (j := 2) hi hL (by decide)) ?_
  refine am_callV (As := [.int (gX G (nI (6 * n) + 1).toNatClampNeg), .int (gX G (nI (6 * n) + 2).toNatClampNeg)]) (rest := []) dL_971 kML_145 rfl hc0 rfl rfl (Nat.le_of_ble_eq_true rfl) (d2 := d1) (by omega) (k2 := k1) (by omega) (u2 := u1) (by omega) (Nat.le_of_ble_eq_true rfl) C6 (fun v h1 q => ?_)
  obtain ⟨x1, rfl, ⟨fs, hc1⟩, Q2, C7, hq2⟩ := hq v h1 q
  refine am_aload_n dL_974 1 rfl ?_
  refine am_aload_n dL_975 3 rfl ?_
  refine am_iload_n dL_976 0 rfl ?_
  refine am_iconst (v := 1) dL_977 (by decide) ?_
  refine am_iadd dL_978 ?_
  refine am_sld dL_979 (lw_in (j := 1) hi hL (by decide)) ?_
  refine am_aload_n dL_980 3 rfl ?_
  refine am_iload_n dL_981 0 rfl ?_
  refine am_iconst (v := 2) dL_982 (by decide) ?_
  refine am_iadd dL_983 ?_
  refine am_sld dL_984 (lw_in (j := 2) hi hL (by decide)) ?_
  refine am_callV (As := [.int (gX G (nI (6 * n) + 1).toNatClampNeg), .int (gX G (nI (6 * n) + 2).toNatClampNeg)]) (rest := [.int x1]) dL_985 kML_148 rfl hc1 rfl rfl (Nat.le_of_ble_eq_true rfl) (d2 := d2) (by omega) (k2 := 0) (Nat.zero_le _) (u2 := 0) (Nat.zero_le _) (Nat.le_of_ble_eq_true rfl) C7 (fun v2 h2 q2 => ?_)
  obtain ⟨rfl, H2⟩ := hq2 v2 h2 q2
  refine am_icmp_eq dL_988 (by decide : ((988 : Nat) : Int) + 688 = ((1676 : Nat) : Int)) (fun _ => ?_) (fun hh => absurd rfl hh)
  exact tr_wk (by omega) (by omega) (kk h2 H2)
theorem lw_c33 {l : Launch} {G : GM} {n k u : Nat} {h : List va_E} {Q : Option Value → List va_E → Prop} (H : HZ G h n) (hn : n ≤ 511) (hi : 6 * n + 6 ≤ gL G) (hL : gL G ≤ 3072) (hk : 112 ≤ k) (hu : 8004 ≤ u) (kk : ∀ h1, HZ G h1 (n + 1) → Tr l G mL 22 (k - 112) (u - 8004) 1676 (lwV G n) [] h1 Q) : Tr l G mL 22 k u 993 (lwV G n) [] h Q := by
  obtain ⟨d1, d2, k1, u1, Q1, b1, b2, b3, b4, C6, hq⟩ := st_setTolerance (l := l) H (by omega) (gX G (nI (6 * n) + 1).toNatClampNeg) (gX G (nI (6 * n) + 2).toNatClampNeg)
  obtain ⟨f0, hc0⟩ := hz_c00 H
  refine am_aload_n dL_993 2 rfl ?_
  refine am_aload_n dL_994 3 rfl ?_
  refine am_iload_n dL_995 0 rfl ?_
  refine am_iconst (v := 1) dL_996 (by decide) ?_
  refine am_iadd dL_997 ?_
  refine am_sld dL_998 (lw_in (j := 1) hi hL (by decide)) ?_
  refine am_aload_n dL_999 3 rfl ?_
  refine am_iload_n dL_1000 0 rfl ?_
  refine am_iconst (v := 2) dL_1001 (by decide) ?_
  refine am_iadd dL_1002 ?_
  refine am_sld dL_1003 (lw_in (j := 2) hi hL (by decide)) ?_
  refine am_callV (As := [.int (gX G (nI (6 * n) + 1).toNatClampNeg), .int (gX G (nI (6 * n) + 2).toNatClampNeg)]) (rest := []) dL_1004 kML_149 rfl hc0 rfl rfl (Nat.le_of_ble_eq_true rfl) (d2 := d1) (by omega) (k2 := k1) (by omega) (u2 := u1) (by omega) (Nat.le_of_ble_eq_true rfl) C6 (fun v h1 q => ?_)
  obtain ⟨x1, rfl, ⟨fs, hc1⟩, Q2, C7, hq2⟩ := hq v h1 q
  refine am_aload_n dL_1007 1 rfl ?_
  refine am_aload_n dL_1008 3 rfl ?_
  refine am_iload_n dL_1009 0 rfl ?_
  refine am_iconst (v := 1) dL_1010 (by decide) ?_
  refine am_iadd dL_1011 ?_
  refine am_sld dL_1012 (lw_in (j := 1) hi hL (by decide)) ?_
  refine am_aload_n dL_1013 3 rfl ?_
  refine am_iload_n dL_1014 0 rfl ?_
  refine am_iconst (v := 2) dL_1015 (by decide) ?_
  refine am_iadd dL_1016 ?_
  refine am_sld dL_1017 (lw_in (j := 2) hi hL (by decide)) ?_
  refine am_callV (As := [.int (gX G (nI (6 * n) + 1).toNatClampNeg), .int (gX G (nI (6 * n) + 2).toNatClampNeg)]) (rest := [.int x1]) dL_1018 kML_152 rfl hc1 rfl rfl (Nat.le_of_ble_eq_true rfl) (d2 := d2) (by omega) (k2 := 0) (Nat.zero_le _) (u2 := 0) (Nat.zero_le _) (Nat.le_of_ble_eq_true rfl) C7 (fun v2 h2 q2 => ?_)
  obtain ⟨rfl, H2⟩ := hq2 v2 h2 q2
  refine am_icmp_eq dL_1021 (by decide : ((1021 : Nat) : Int) + 655 = ((1676 : Nat) : Int)) (fun _ => ?_) (fun hh => absurd rfl hh)
  exact tr_wk (by omega) (by omega) (kk h2 H2)
theorem lw_c34 {l : Launch} {G : GM} {n k u : Nat} {h : List va_E} {Q : Option Value → List va_E → Prop} (H : HZ G h n) (hn : n ≤ 511) (hi : 6 * n + 6 ≤ gL G) (hL : gL G ≤ 3072) (hk : 112 ≤ k) (hu : 8004 ≤ u) (kk : ∀ h1, HZ G h1 (n + 1) → Tr l G mL 22 (k - 112) (u - 8004) 1676 (lwV G n) [] h1 Q) : Tr l G mL 22 k u 1026 (lwV G n) [] h Q := by
  obtain ⟨d1, d2, k1, u1, Q1, b1, b2, b3, b4, C6, hq⟩ := st_setSteam (l := l) H (by omega) (gX G (nI (6 * n) + 1).toNatClampNeg)
  obtain ⟨f0, hc0⟩ := hz_c00 H
  refine am_aload_n dL_1026 2 rfl ?_
  refine am_aload_n dL_1027 3 rfl ?_
  refine am_iload_n dL_1028 0 rfl ?_
  refine am_iconst (v := 1) dL_1029 (by decide) ?_
  refine am_iadd dL_1030 ?_
  refine am_sld dL_1031 (lw_in (j := 1) hi hL (by decide)) ?_
  refine am_callV (As := [.int (gX G (nI (6 * n) + 1).toNatClampNeg)]) (rest := []) dL_1032 kML_153 rfl hc0 rfl rfl (Nat.le_of_ble_eq_true rfl) (d2 := d1) (by omega) (k2 := k1) (by omega) (u2 := u1) (by omega) (Nat.le_of_ble_eq_true rfl) C6 (fun v h1 q => ?_)
  obtain ⟨x1, rfl, ⟨fs, hc1⟩, Q2, C7, hq2⟩ := hq v h1 q
  refine am_aload_n dL_1035 1 rfl ?_
  refine am_aload_n dL_1036 3 rfl ?_
  refine am_iload_n dL_1037 0 rfl ?_
  refine am_iconst (v := 1) dL_1038 (by decide) ?_
  refine am_iadd dL_1039 ?_
  refine am_sld dL_1040 (lw_in (j := 1) hi hL (by decide)) ?_
  refine am_callV (As := [.int (gX G (nI (6 * n) + 1).toNatClampNeg)]) (rest := [.int x1]) dL_1041 kML_156 rfl hc1 rfl rfl (Nat.le_of_ble_eq_true rfl) (d2 := d2) (by omega) (k2 := 0) (Nat.zero_le _) (u2 := 0) (Nat.zero_le _) (Nat.le_of_ble_eq_true rfl) C7 (fun v2 h2 q2 => ?_)
  obtain ⟨rfl, H2⟩ := hq2 v2 h2 q2
  refine am_icmp_eq dL_1044 (by decide : ((1044 : Nat) : Int) + 632 = ((1676 : Nat) : Int)) (fun _ => ?_) (fun hh => absurd rfl hh)
  exact tr_wk (by omega) (by omega) (kk h2 H2)
theorem lw_c35 {l : Launch} {G : GM} {n k u : Nat} {h : List va_E} {Q : Option Value → List va_E → Prop} (H : HZ G h n) (hn : n ≤ 511) (hi : 6 * n + 6 ≤ gL G) (hL : gL G ≤ 3072) (hk : 112 ≤ k) (hu : 8004 ≤ u) (kk : ∀ h1, HZ G h1 (n + 1) → Tr l G mL 22 (k - 112) (u - 8004) 1676 (lwV G n) [] h1 Q) : Tr l G mL 22 k u 1049 (lwV G n) [] h Q := by
  obtain ⟨d1, d2, k1, u1, Q1, b1, b2, b3, b4, C6, hq⟩ := st_isMatch (l := l) H (by omega) (gX G (nI (6 * n) + 1).toNatClampNeg) (gX G (nI (6 * n) + 2).toNatClampNeg)
  obtain ⟨f0, hc0⟩ := hz_c00 H
  refine am_aload_n dL_1049 2 rfl ?_
  refine am_aload_n dL_1050 3 rfl ?_
  refine am_iload_n dL_1051 0 rfl ?_
  refine am_iconst (v := 1) dL_1052 (by decide) ?_
  refine am_iadd dL_1053 ?_
  refine am_sld dL_1054 (lw_in (j := 1) hi hL (by decide)) ?_
  refine am_aload_n dL_1055 3 rfl ?_
  refine am_iload_n dL_1056 0 rfl ?_
  refine am_iconst (v := 2) dL_1057 (by decide) ?_
  refine am_iadd dL_1058 ?_
  refine am_sld dL_1059 (lw_in (j := 2) hi hL (by decide)) ?_
  refine am_callV (As := [.int (gX G (nI (6 * n) + 1).toNatClampNeg), .int (gX G (nI (6 * n) + 2).toNatClampNeg)]) (rest := []) dL_1060 kML_157 rfl hc0 rfl rfl (Nat.le_of_ble_eq_true rfl) (d2 := d1) (by omega) (k2 := k1) (by omega) (u2 := u1) (by omega) (Nat.le_of_ble_eq_true rfl) C6 (fun v h1 q => ?_)
  obtain ⟨x1, rfl, ⟨fs, hc1⟩, Q2, C7, hq2⟩ := hq v h1 q
  refine am_aload_n dL_1063 1 rfl ?_
  refine am_aload_n dL_1064 3 rfl ?_
  refine am_iload_n dL_1065 0 rfl ?_
  refine am_iconst (v := 1) dL_1066 (by decide) ?_
  refine am_iadd dL_1067 ?_
  refine am_sld dL_1068 (lw_in (j := 1) hi hL (by decide)) ?_
  refine am_aload_n dL_1069 3 rfl ?_
  refine am_iload_n dL_1070 0 rfl ?_
  refine am_iconst (v := 2) dL_1071 (by decide) ?_
  refine am_iadd dL_1072 ?_
  refine am_sld dL_1073 (lw_in (j := 2) hi hL (by decide)) ?_
  refine am_callV (As := [.int (gX G (nI (6 * n) + 1).toNatClampNeg), .int (gX G (nI (6 * n) + 2).toNatClampNeg)]) (rest := [.int x1]) dL_1074 kML_160 rfl hc1 rfl rfl (Nat.le_of_ble_eq_true rfl) (d2 := d2) (by omega) (k2 := 0) (Nat.zero_le _) (u2 := 0) (Nat.zero_le _) (Nat.le_of_ble_eq_true rfl) C7 (fun v2 h2 q2 => ?_)
  obtain ⟨rfl, H2⟩ := hq2 v2 h2 q2
  refine am_icmp_eq dL_1077 (by decide : ((1077 : Nat) : Int) + 599 = ((1676 : Nat) : Int)) (fun _ => ?_) (fun hh => absurd rfl hh)
  exact tr_wk (by omega) (by omega) (kk h2 H2)
theorem lw_c36 {l : Launch} {G : GM} {n k u : Nat} {h : List va_E} {Q : Option Value → List va_E → Prop} (H : HZ G h n) (hn : n ≤ 511) (hi : 6 * n + 6 ≤ gL G) (hL : gL G ≤ 3072) (hk : 112 ≤ k) (hu : 8004 ≤ u) (kk : ∀ h1, HZ G h1 (n + 1) → Tr l G mL 22 (k - 112) (u - 8004) 1676 (lwV G n) [] h1 Q) : Tr l G mL 22 k u 1082 (lwV G n) [] h Q := by
  obtain ⟨d1, d2, k1, u1, Q1, b1, b2, b3, b4, C6, hq⟩ := st_gap (l := l) H (by omega) (gX G (nI (6 * n) + 1).toNatClampNeg) (gX G (nI (6 * n) + 2).toNatClampNeg)
  obtain ⟨f0, hc0⟩ := hz_c00 H
  refine am_aload_n dL_1082 2 rfl ?_
  refine am_aload_n dL_1083 3 rfl ?_
  refine am_iload_n dL_1084 0 rfl ?_
  refine am_iconst (v := 1) dL_1085 (by decide) ?_
  refine am_iadd dL_1086 ?_
  refine am_sld dL_1087 (lw_in (j := 1) hi hL (by decide)) ?_
  refine am_aload_n dL_1088 3 rfl ?_
  refine am_iload_n dL_1089 0 rfl ?_
  refine am_iconst (v := 2) dL_1090 (by decide) ?_
  refine am_iadd dL_1091 ?_
  refine am_sld dL_1092 (lw_in (j := 2) hi hL (by decide)) ?_
  refine am_callV (As := [.int (gX G (nI (6 * n) + 1).toNatClampNeg), .int (gX G (nI (6 * n) + 2).toNatClampNeg)]) (rest := []) dL_1093 kML_161 rfl hc0 rfl rfl (Nat.le_of_ble_eq_true rfl) (d2 := d1) (by omega) (k2 := k1) (by omega) (u2 := u1) (by omega) (Nat.le_of_ble_eq_true rfl) C6 (fun v h1 q => ?_)
  obtain ⟨x1, rfl, ⟨fs, hc1⟩, Q2, C7, hq2⟩ := hq v h1 q
  refine am_aload_n dL_1096 1 rfl ?_
  refine am_aload_n dL_1097 3 rfl ?_
  refine am_iload_n dL_1098 0 rfl ?_
  refine am_iconst (v := 1) dL_1099 (by decide) ?_
  refine am_iadd dL_1100 ?_
  refine am_sld dL_1101 (lw_in (j := 1) hi hL (by decide)) ?_
  refine am_aload_n dL_1102 3 rfl ?_
  refine am_iload_n dL_1103 0 rfl ?_
  refine am_iconst (v := 2) dL_1104 (by decide) ?_
  refine am_iadd dL_1105 ?_
  refine am_sld dL_1106 (lw_in (j := 2) hi hL (by decide)) ?_
  refine am_callV (As := [.int (gX G (nI (6 * n) + 1).toNatClampNeg), .int (gX G (nI (6 * n) + 2).toNatClampNeg)]) (rest := [.int x1]) dL_1107 kML_164 rfl hc1 rfl rfl (Nat.le_of_ble_eq_true rfl) (d2 := d2) (by omega) (k2 := 0) (Nat.zero_le _) (u2 := 0) (Nat.zero_le _) (Nat.le_of_ble_eq_true rfl) C7 (fun v2 h2 q2 => ?_)
  obtain ⟨rfl, H2⟩ := hq2 v2 h2 q2
  refine am_icmp_eq dL_1110 (by decide : ((1110 : Nat) : Int) + 566 = ((1676 : Nat) : Int)) (fun _ => ?_) (fun hh => absurd rfl hh)
  exact tr_wk (by omega) (by omega) (kk h2 H2)
theorem lw_c37 {l : Launch} {G : GM} {n k u : Nat} {h : List va_E} {Q : Option Value → List va_E → Prop} (H : HZ G h n) (hn : n ≤ 511) (hi : 6 * n + 6 ≤ gL G) (hL : gL G ≤ 3072) (hk : 112 ≤ k) (hu : 8004 ≤ u) (kk : ∀ h1, HZ G h1 (n + 1) → Tr l G mL 22 (k - 112) (u - 8004) 1676 (lwV G n) [] h1 Q) : Tr l G mL 22 k u 1115 (lwV G n) [] h Q := by
  obtain ⟨d1, d2, k1, u1, Q1, b1, b2, b3, b4, C6, hq⟩ := st_matches (l := l) H (by omega) (gX G (nI (6 * n) + 1).toNatClampNeg)
  obtain ⟨f0, hc0⟩ := hz_c00 H
  refine am_aload_n dL_1115 2 rfl ?_
  refine am_aload_n dL_1116 3 rfl ?_
  refine am_iload_n dL_1117 0 rfl ?_
  refine am_iconst (v := 1) dL_1118 (by decide) ?_
  refine am_iadd dL_1119 ?_
  refine am_sld dL_1120 (lw_in (j := 1) hi hL (by decide)) ?_
  refine am_callV (As := [.int (gX G (nI (6 * n) + 1).toNatClampNeg)]) (rest := []) dL_1121 kML_165 rfl hc0 rfl rfl (Nat.le_of_ble_eq_true rfl) (d2 := d1) (by omega) (k2 := k1) (by omega) (u2 := u1) (by omega) (Nat.le_of_ble_eq_true rfl) C6 (fun v h1 q => ?_)
  obtain ⟨x1, rfl, ⟨fs, hc1⟩, Q2, C7, hq2⟩ := hq v h1 q
  refine am_aload_n dL_1124 1 rfl ?_
  refine am_aload_n dL_1125 3 rfl ?_
  refine am_iload_n dL_1126 0 rfl ?_
  refine am_iconst (v := 1) dL_1127 (by decide) ?_
  refine am_iadd dL_1128 ?_
  refine am_sld dL_1129 (lw_in (j := 1) hi hL (by decide)) ?_
  refine am_callV (As := [.int (gX G (nI (6 * n) + 1).toNatClampNeg)]) (rest := [.int x1]) dL_1130 kML_168 rfl hc1 rfl rfl (Nat.le_of_ble_eq_true rfl) (d2 := d2) (by omega) (k2 := 0) (Nat.zero_le _) (u2 := 0) (Nat.zero_le _) (Nat.le_of_ble_eq_true rfl) C7 (fun v2 h2 q2 => ?_)
  obtain ⟨rfl, H2⟩ := hq2 v2 h2 q2
  refine am_icmp_eq dL_1133 (by decide : ((1133 : Nat) : Int) + 543 = ((1676 : Nat) : Int)) (fun _ => ?_) (fun hh => absurd rfl hh)
  exact tr_wk (by omega) (by omega) (kk h2 H2)
theorem lw_c38 {l : Launch} {G : GM} {n k u : Nat} {h : List va_E} {Q : Option Value → List va_E → Prop} (H : HZ G h n) (hn : n ≤ 511) (hi : 6 * n + 6 ≤ gL G) (hL : gL G ≤ 3072) (hk : 112 ≤ k) (hu : 8004 ≤ u) (kk : ∀ h1, HZ G h1 (n + 1) → Tr l G mL 22 (k - 112) (u - 8004) 1676 (lwV G n) [] h1 Q) : Tr l G mL 22 k u 1138 (lwV G n) [] h Q := by
  obtain ⟨d1, d2, k1, u1, Q1, b1, b2, b3, b4, C6, hq⟩ := st_nearest (l := l) H (by omega) (gX G (nI (6 * n) + 1).toNatClampNeg)
  obtain ⟨f0, hc0⟩ := hz_c00 H
  refine am_aload_n dL_1138 2 rfl ?_
  refine am_aload_n dL_1139 3 rfl ?_
  refine am_iload_n dL_1140 0 rfl ?_
  refine am_iconst (v := 1) dL_1141 (by decide) ?_
  refine am_iadd dL_1142 ?_
  refine am_sld dL_1143 (lw_in (j := 1) hi hL (by decide)) ?_
  refine am_callV (As := [.int (gX G (nI (6 * n) + 1).toNatClampNeg)]) (rest := []) dL_1144 kML_169 rfl hc0 rfl rfl (Nat.le_of_ble_eq_true rfl) (d2 := d1) (by omega) (k2 := k1) (by omega) (u2 := u1) (by omega) (Nat.le_of_ble_eq_true rfl) C6 (fun v h1 q => ?_)
  obtain ⟨x1, rfl, ⟨fs, hc1⟩, Q2, C7, hq2⟩ := hq v h1 q
  refine am_aload_n dL_1147 1 rfl ?_
  refine am_aload_n dL_1148 3 rfl ?_
  refine am_iload_n dL_1149 0 rfl ?_
  refine am_iconst (v := 1) dL_1150 (by decide) ?_
  refine am_iadd dL_1151 ?_
  refine am_sld dL_1152 (lw_in (j := 1) hi hL (by decide)) ?_
  refine am_callV (As := [.int (gX G (nI (6 * n) + 1).toNatClampNeg)]) (rest := [.int x1]) dL_1153 kML_172 rfl hc1 rfl rfl (Nat.le_of_ble_eq_true rfl) (d2 := d2) (by omega) (k2 := 0) (Nat.zero_le _) (u2 := 0) (Nat.zero_le _) (Nat.le_of_ble_eq_true rfl) C7 (fun v2 h2 q2 => ?_)
  obtain ⟨rfl, H2⟩ := hq2 v2 h2 q2
  refine am_icmp_eq dL_1156 (by decide : ((1156 : Nat) : Int) + 520 = ((1676 : Nat) : Int)) (fun _ => ?_) (fun hh => absurd rfl hh)
  exact tr_wk (by omega) (by omega) (kk h2 H2)
theorem lw_c39 {l : Launch} {G : GM} {n k u : Nat} {h : List va_E} {Q : Option Value → List va_E → Prop} (H : HZ G h n) (hn : n ≤ 511) (hi : 6 * n + 6 ≤ gL G) (hL : gL G ≤ 3072) (hk : 112 ≤ k) (hu : 8004 ≤ u) (kk : ∀ h1, HZ G h1 (n + 1) → Tr l G mL 22 (k - 112) (u - 8004) 1676 (lwV G n) [] h1 Q) : Tr l G mL 22 k u 1161 (lwV G n) [] h Q := by
  obtain ⟨d1, d2, k1, u1, Q1, b1, b2, b3, b4, C6, hq⟩ := st_pairCount (l := l) H (by omega)
  obtain ⟨f0, hc0⟩ := hz_c00 H
  refine am_aload_n dL_1161 2 rfl ?_
  refine am_callV (As := []) (rest := []) dL_1162 kML_173 rfl hc0 rfl rfl (Nat.le_of_ble_eq_true rfl) (d2 := d1) (by omega) (k2 := k1) (by omega) (u2 := u1) (by omega) (Nat.le_of_ble_eq_true rfl) C6 (fun v h1 q => ?_)
  obtain ⟨x1, rfl, ⟨fs, hc1⟩, Q2, C7, hq2⟩ := hq v h1 q
  refine am_aload_n dL_1165 1 rfl ?_
  refine am_callV (As := []) (rest := [.int x1]) dL_1166 kML_176 rfl hc1 rfl rfl (Nat.le_of_ble_eq_true rfl) (d2 := d2) (by omega) (k2 := 0) (Nat.zero_le _) (u2 := 0) (Nat.zero_le _) (Nat.le_of_ble_eq_true rfl) C7 (fun v2 h2 q2 => ?_)
  obtain ⟨rfl, H2⟩ := hq2 v2 h2 q2
  refine am_icmp_eq dL_1169 (by decide : ((1169 : Nat) : Int) + 507 = ((1676 : Nat) : Int)) (fun _ => ?_) (fun hh => absurd rfl hh)
  exact tr_wk (by omega) (by omega) (kk h2 H2)
theorem lw_c40 {l : Launch} {G : GM} {n k u : Nat} {h : List va_E} {Q : Option Value → List va_E → Prop} (H : HZ G h n) (hn : n ≤ 511) (hi : 6 * n + 6 ≤ gL G) (hL : gL G ≤ 3072) (hk : 112 ≤ k) (hu : 8004 ≤ u) (kk : ∀ h1, HZ G h1 (n + 1) → Tr l G mL 22 (k - 112) (u - 8004) 1676 (lwV G n) [] h1 Q) : Tr l G mL 22 k u 1174 (lwV G n) [] h Q := by
  obtain ⟨d1, d2, k1, u1, Q1, b1, b2, b3, b4, C6, hq⟩ := st_pairGap (l := l) H (by omega)
  obtain ⟨f0, hc0⟩ := hz_c00 H
  refine am_aload_n dL_1174 2 rfl ?_
  refine am_callV (As := []) (rest := []) dL_1175 kML_177 rfl hc0 rfl rfl (Nat.le_of_ble_eq_true rfl) (d2 := d1) (by omega) (k2 := k1) (by omega) (u2 := u1) (by omega) (Nat.le_of_ble_eq_true rfl) C6 (fun v h1 q => ?_)
  obtain ⟨x1, rfl, ⟨fs, hc1⟩, Q2, C7, hq2⟩ := hq v h1 q
  refine am_aload_n dL_1178 1 rfl ?_
  refine am_callV (As := []) (rest := [.int x1]) dL_1179 kML_180 rfl hc1 rfl rfl (Nat.le_of_ble_eq_true rfl) (d2 := d2) (by omega) (k2 := 0) (Nat.zero_le _) (u2 := 0) (Nat.zero_le _) (Nat.le_of_ble_eq_true rfl) C7 (fun v2 h2 q2 => ?_)
  obtain ⟨rfl, H2⟩ := hq2 v2 h2 q2
  refine am_icmp_eq dL_1182 (by decide : ((1182 : Nat) : Int) + 494 = ((1676 : Nat) : Int)) (fun _ => ?_) (fun hh => absurd rfl hh)
  exact tr_wk (by omega) (by omega) (kk h2 H2)
theorem lw_c41 {l : Launch} {G : GM} {n k u : Nat} {h : List va_E} {Q : Option Value → List va_E → Prop} (H : HZ G h n) (hn : n ≤ 511) (hi : 6 * n + 6 ≤ gL G) (hL : gL G ≤ 3072) (hk : 112 ≤ k) (hu : 8004 ≤ u) (kk : ∀ h1, HZ G h1 (n + 1) → Tr l G mL 22 (k - 112) (u - 8004) 1676 (lwV G n) [] h1 Q) : Tr l G mL 22 k u 1187 (lwV G n) [] h Q := by
  obtain ⟨d1, d2, k1, u1, Q1, b1, b2, b3, b4, C6, hq⟩ := st_partner (l := l) H (by omega) (gX G (nI (6 * n) + 1).toNatClampNeg)
  obtain ⟨f0, hc0⟩ := hz_c00 H
  refine am_aload_n dL_1187 2 rfl ?_
  refine am_aload_n dL_1188 3 rfl ?_
  refine am_iload_n dL_1189 0 rfl ?_
  refine am_iconst (v := 1) dL_1190 (by decide) ?_
  refine am_iadd dL_1191 ?_
  refine am_sld dL_1192 (lw_in (j := 1) hi hL (by decide)) ?_
  refine am_callV (As := [.int (gX G (nI (6 * n) + 1).toNatClampNeg)]) (rest := []) dL_1193 kML_181 rfl hc0 rfl rfl (Nat.le_of_ble_eq_true rfl) (d2 := d1) (by omega) (k2 := k1) (by omega) (u2 := u1) (by omega) (Nat.le_of_ble_eq_true rfl) C6 (fun v h1 q => ?_)
  obtain ⟨x1, rfl, ⟨fs, hc1⟩, Q2, C7, hq2⟩ := hq v h1 q
  refine am_aload_n dL_1196 1 rfl ?_
  refine am_aload_n dL_1197 3 rfl ?_
  refine am_iload_n dL_1198 0 rfl ?_
  refine am_iconst (v := 1) dL_1199 (by decide) ?_
  refine am_iadd dL_1200 ?_
  refine am_sld dL_1201 (lw_in (j := 1) hi hL (by decide)) ?_
  refine am_callV (As := [.int (gX G (nI (6 * n) + 1).toNatClampNeg)]) (rest := [.int x1]) dL_1202 kML_184 rfl hc1 rfl rfl (Nat.le_of_ble_eq_true rfl) (d2 := d2) (by omega) (k2 := 0) (Nat.zero_le _) (u2 := 0) (Nat.zero_le _) (Nat.le_of_ble_eq_true rfl) C7 (fun v2 h2 q2 => ?_)
  obtain ⟨rfl, H2⟩ := hq2 v2 h2 q2
  refine am_icmp_eq dL_1205 (by decide : ((1205 : Nat) : Int) + 471 = ((1676 : Nat) : Int)) (fun _ => ?_) (fun hh => absurd rfl hh)
  exact tr_wk (by omega) (by omega) (kk h2 H2)
theorem lw_c42 {l : Launch} {G : GM} {n k u : Nat} {h : List va_E} {Q : Option Value → List va_E → Prop} (H : HZ G h n) (hn : n ≤ 511) (hi : 6 * n + 6 ≤ gL G) (hL : gL G ≤ 3072) (hk : 112 ≤ k) (hu : 8004 ≤ u) (kk : ∀ h1, HZ G h1 (n + 1) → Tr l G mL 22 (k - 112) (u - 8004) 1676 (lwV G n) [] h1 Q) : Tr l G mL 22 k u 1210 (lwV G n) [] h Q := by
  obtain ⟨d1, d2, k1, u1, Q1, b1, b2, b3, b4, C6, hq⟩ := st_pair (l := l) H (by omega) (gX G (nI (6 * n) + 1).toNatClampNeg)
  obtain ⟨f0, hc0⟩ := hz_c00 H
  refine am_aload_n dL_1210 2 rfl ?_
  refine am_aload_n dL_1211 3 rfl ?_
  refine am_iload_n dL_1212 0 rfl ?_
  refine am_iconst (v := 1) dL_1213 (by decide) ?_
  refine am_iadd dL_1214 ?_
  refine am_sld dL_1215 (lw_in (j := 1) hi hL (by decide)) ?_
  refine am_callV (As := [.int (gX G (nI (6 * n) + 1).toNatClampNeg)]) (rest := []) dL_1216 kML_185 rfl hc0 rfl rfl (Nat.le_of_ble_eq_true rfl) (d2 := d1) (by omega) (k2 := k1) (by omega) (u2 := u1) (by omega) (Nat.le_of_ble_eq_true rfl) C6 (fun v h1 q => ?_)
  obtain ⟨x1, rfl, ⟨fs, hc1⟩, Q2, C7, hq2⟩ := hq v h1 q
  refine am_aload_n dL_1219 1 rfl ?_
  refine am_aload_n dL_1220 3 rfl ?_
  refine am_iload_n dL_1221 0 rfl ?_
  refine am_iconst (v := 1) dL_1222 (by decide) ?_
  refine am_iadd dL_1223 ?_
  refine am_sld dL_1224 (lw_in (j := 1) hi hL (by decide)) ?_
  refine am_callV (As := [.int (gX G (nI (6 * n) + 1).toNatClampNeg)]) (rest := [.int x1]) dL_1225 kML_188 rfl hc1 rfl rfl (Nat.le_of_ble_eq_true rfl) (d2 := d2) (by omega) (k2 := 0) (Nat.zero_le _) (u2 := 0) (Nat.zero_le _) (Nat.le_of_ble_eq_true rfl) C7 (fun v2 h2 q2 => ?_)
  obtain ⟨rfl, H2⟩ := hq2 v2 h2 q2
  refine am_icmp_eq dL_1228 (by decide : ((1228 : Nat) : Int) + 448 = ((1676 : Nat) : Int)) (fun _ => ?_) (fun hh => absurd rfl hh)
  exact tr_wk (by omega) (by omega) (kk h2 H2)
theorem lw_c43 {l : Launch} {G : GM} {n k u : Nat} {h : List va_E} {Q : Option Value → List va_E → Prop} (H : HZ G h n) (hn : n ≤ 511) (hi : 6 * n + 6 ≤ gL G) (hL : gL G ≤ 3072) (hk : 112 ≤ k) (hu : 8004 ≤ u) (kk : ∀ h1, HZ G h1 (n + 1) → Tr l G mL 22 (k - 112) (u - 8004) 1676 (lwV G n) [] h1 Q) : Tr l G mL 22 k u 1233 (lwV G n) [] h Q := by
  obtain ⟨d1, d2, k1, u1, Q1, b1, b2, b3, b4, C6, hq⟩ := st_pairSize (l := l) H (by omega) (gX G (nI (6 * n) + 1).toNatClampNeg)
  obtain ⟨f0, hc0⟩ := hz_c00 H
  refine am_aload_n dL_1233 2 rfl ?_
  refine am_aload_n dL_1234 3 rfl ?_
  refine am_iload_n dL_1235 0 rfl ?_
  refine am_iconst (v := 1) dL_1236 (by decide) ?_
  refine am_iadd dL_1237 ?_
  refine am_sld dL_1238 (lw_in (j := 1) hi hL (by decide)) ?_
  refine am_callV (As := [.int (gX G (nI (6 * n) + 1).toNatClampNeg)]) (rest := []) dL_1239 kML_189 rfl hc0 rfl rfl (Nat.le_of_ble_eq_true rfl) (d2 := d1) (by omega) (k2 := k1) (by omega) (u2 := u1) (by omega) (Nat.le_of_ble_eq_true rfl) C6 (fun v h1 q => ?_)
  obtain ⟨x1, rfl, ⟨fs, hc1⟩, Q2, C7, hq2⟩ := hq v h1 q
  refine am_aload_n dL_1242 1 rfl ?_
  refine am_aload_n dL_1243 3 rfl ?_
  refine am_iload_n dL_1244 0 rfl ?_
  refine am_iconst (v := 1) dL_1245 (by decide) ?_
  refine am_iadd dL_1246 ?_
  refine am_sld dL_1247 (lw_in (j := 1) hi hL (by decide)) ?_
  refine am_callV (As := [.int (gX G (nI (6 * n) + 1).toNatClampNeg)]) (rest := [.int x1]) dL_1248 kML_192 rfl hc1 rfl rfl (Nat.le_of_ble_eq_true rfl) (d2 := d2) (by omega) (k2 := 0) (Nat.zero_le _) (u2 := 0) (Nat.zero_le _) (Nat.le_of_ble_eq_true rfl) C7 (fun v2 h2 q2 => ?_)
  obtain ⟨rfl, H2⟩ := hq2 v2 h2 q2
  refine am_icmp_eq dL_1251 (by decide : ((1251 : Nat) : Int) + 425 = ((1676 : Nat) : Int)) (fun _ => ?_) (fun hh => absurd rfl hh)
  exact tr_wk (by omega) (by omega) (kk h2 H2)
theorem lw_c44 {l : Launch} {G : GM} {n k u : Nat} {h : List va_E} {Q : Option Value → List va_E → Prop} (H : HZ G h n) (hn : n ≤ 511) (hi : 6 * n + 6 ≤ gL G) (hL : gL G ≤ 3072) (hk : 112 ≤ k) (hu : 8004 ≤ u) (kk : ∀ h1, HZ G h1 (n + 1) → Tr l G mL 22 (k - 112) (u - 8004) 1676 (lwV G n) [] h1 Q) : Tr l G mL 22 k u 1256 (lwV G n) [] h Q := by
  obtain ⟨d1, d2, k1, u1, Q1, b1, b2, b3, b4, C6, hq⟩ := st_seconds (l := l) H (by omega)
  obtain ⟨f0, hc0⟩ := hz_c00 H
  refine am_aload_n dL_1256 2 rfl ?_
  refine am_callV (As := []) (rest := []) dL_1257 kML_193 rfl hc0 rfl rfl (Nat.le_of_ble_eq_true rfl) (d2 := d1) (by omega) (k2 := k1) (by omega) (u2 := u1) (by omega) (Nat.le_of_ble_eq_true rfl) C6 (fun v h1 q => ?_)
  obtain ⟨x1, rfl, ⟨fs, hc1⟩, Q2, C7, hq2⟩ := hq v h1 q
  refine am_aload_n dL_1260 1 rfl ?_
  refine am_callV (As := []) (rest := [.int x1]) dL_1261 kML_196 rfl hc1 rfl rfl (Nat.le_of_ble_eq_true rfl) (d2 := d2) (by omega) (k2 := 0) (Nat.zero_le _) (u2 := 0) (Nat.zero_le _) (Nat.le_of_ble_eq_true rfl) C7 (fun v2 h2 q2 => ?_)
  obtain ⟨rfl, H2⟩ := hq2 v2 h2 q2
  refine am_icmp_eq dL_1264 (by decide : ((1264 : Nat) : Int) + 412 = ((1676 : Nat) : Int)) (fun _ => ?_) (fun hh => absurd rfl hh)
  exact tr_wk (by omega) (by omega) (kk h2 H2)
theorem lw_c45 {l : Launch} {G : GM} {n k u : Nat} {h : List va_E} {Q : Option Value → List va_E → Prop} (H : HZ G h n) (hn : n ≤ 511) (hi : 6 * n + 6 ≤ gL G) (hL : gL G ≤ 3072) (hk : 112 ≤ k) (hu : 8004 ≤ u) (kk : ∀ h1, HZ G h1 (n + 1) → Tr l G mL 22 (k - 112) (u - 8004) 1676 (lwV G n) [] h1 Q) : Tr l G mL 22 k u 1269 (lwV G n) [] h Q := by
  obtain ⟨d1, d2, k1, u1, Q1, b1, b2, b3, b4, C6, hq⟩ := st_groupCount (l := l) H (by omega)
  obtain ⟨f0, hc0⟩ := hz_c00 H
  refine am_aload_n dL_1269 2 rfl ?_
  refine am_callV (As := []) (rest := []) dL_1270 kML_197 rfl hc0 rfl rfl (Nat.le_of_ble_eq_true rfl) (d2 := d1) (by omega) (k2 := k1) (by omega) (u2 := u1) (by omega) (Nat.le_of_ble_eq_true rfl) C6 (fun v h1 q => ?_)
  obtain ⟨x1, rfl, ⟨fs, hc1⟩, Q2, C7, hq2⟩ := hq v h1 q
  refine am_aload_n dL_1273 1 rfl ?_
  refine am_callV (As := []) (rest := [.int x1]) dL_1274 kML_200 rfl hc1 rfl rfl (Nat.le_of_ble_eq_true rfl) (d2 := d2) (by omega) (k2 := 0) (Nat.zero_le _) (u2 := 0) (Nat.zero_le _) (Nat.le_of_ble_eq_true rfl) C7 (fun v2 h2 q2 => ?_)
  obtain ⟨rfl, H2⟩ := hq2 v2 h2 q2
  refine am_icmp_eq dL_1277 (by decide : ((1277 : Nat) : Int) + 399 = ((1676 : Nat) : Int)) (fun _ => ?_) (fun hh => absurd rfl hh)
  exact tr_wk (by omega) (by omega) (kk h2 H2)
theorem lw_c46 {l : Launch} {G : GM} {n k u : Nat} {h : List va_E} {Q : Option Value → List va_E → Prop} (H : HZ G h n) (hn : n ≤ 511) (hi : 6 * n + 6 ≤ gL G) (hL : gL G ≤ 3072) (hk : 112 ≤ k) (hu : 8004 ≤ u) (kk : ∀ h1, HZ G h1 (n + 1) → Tr l G mL 22 (k - 112) (u - 8004) 1676 (lwV G n) [] h1 Q) : Tr l G mL 22 k u 1282 (lwV G n) [] h Q := by
  obtain ⟨d1, d2, k1, u1, Q1, b1, b2, b3, b4, C6, hq⟩ := st_groupOf (l := l) H (by omega) (gX G (nI (6 * n) + 1).toNatClampNeg)
  obtain ⟨f0, hc0⟩ := hz_c00 H
  refine am_aload_n dL_1282 2 rfl ?_
  refine am_aload_n dL_1283 3 rfl ?_
  refine am_iload_n dL_1284 0 rfl ?_
  refine am_iconst (v := 1) dL_1285 (by decide) ?_
  refine am_iadd dL_1286 ?_
  refine am_sld dL_1287 (lw_in (j := 1) hi hL (by decide)) ?_
  refine am_callV (As := [.int (gX G (nI (6 * n) + 1).toNatClampNeg)]) (rest := []) dL_1288 kML_201 rfl hc0 rfl rfl (Nat.le_of_ble_eq_true rfl) (d2 := d1) (by omega) (k2 := k1) (by omega) (u2 := u1) (by omega) (Nat.le_of_ble_eq_true rfl) C6 (fun v h1 q => ?_)
  obtain ⟨x1, rfl, ⟨fs, hc1⟩, Q2, C7, hq2⟩ := hq v h1 q
  refine am_aload_n dL_1291 1 rfl ?_
  refine am_aload_n dL_1292 3 rfl ?_
  refine am_iload_n dL_1293 0 rfl ?_
  refine am_iconst (v := 1) dL_1294 (by decide) ?_
  refine am_iadd dL_1295 ?_
  refine am_sld dL_1296 (lw_in (j := 1) hi hL (by decide)) ?_
  refine am_callV (As := [.int (gX G (nI (6 * n) + 1).toNatClampNeg)]) (rest := [.int x1]) dL_1297 kML_204 rfl hc1 rfl rfl (Nat.le_of_ble_eq_true rfl) (d2 := d2) (by omega) (k2 := 0) (Nat.zero_le _) (u2 := 0) (Nat.zero_le _) (Nat.le_of_ble_eq_true rfl) C7 (fun v2 h2 q2 => ?_)
  obtain ⟨rfl, H2⟩ := hq2 v2 h2 q2
  refine am_icmp_eq dL_1300 (by decide : ((1300 : Nat) : Int) + 376 = ((1676 : Nat) : Int)) (fun _ => ?_) (fun hh => absurd rfl hh)
  exact tr_wk (by omega) (by omega) (kk h2 H2)
theorem lw_c47 {l : Launch} {G : GM} {n k u : Nat} {h : List va_E} {Q : Option Value → List va_E → Prop} (H : HZ G h n) (hn : n ≤ 511) (hi : 6 * n + 6 ≤ gL G) (hL : gL G ≤ 3072) (hk : 112 ≤ k) (hu : 8004 ≤ u) (kk : ∀ h1, HZ G h1 (n + 1) → Tr l G mL 22 (k - 112) (u - 8004) 1676 (lwV G n) [] h1 Q) : Tr l G mL 22 k u 1305 (lwV G n) [] h Q := by
  obtain ⟨d1, d2, k1, u1, Q1, b1, b2, b3, b4, C6, hq⟩ := st_pack (l := l) H (by omega)
  obtain ⟨f0, hc0⟩ := hz_c00 H
  refine am_aload_n dL_1305 2 rfl ?_
  refine am_callV (As := []) (rest := []) dL_1306 kML_205 rfl hc0 rfl rfl (Nat.le_of_ble_eq_true rfl) (d2 := d1) (by omega) (k2 := k1) (by omega) (u2 := u1) (by omega) (Nat.le_of_ble_eq_true rfl) C6 (fun v h1 q => ?_)
  obtain ⟨x1, rfl, ⟨fs, hc1⟩, Q2, C7, hq2⟩ := hq v h1 q
  refine am_aload_n dL_1309 1 rfl ?_
  refine am_callV (As := []) (rest := [.int x1]) dL_1310 kML_208 rfl hc1 rfl rfl (Nat.le_of_ble_eq_true rfl) (d2 := d2) (by omega) (k2 := 0) (Nat.zero_le _) (u2 := 0) (Nat.zero_le _) (Nat.le_of_ble_eq_true rfl) C7 (fun v2 h2 q2 => ?_)
  obtain ⟨rfl, H2⟩ := hq2 v2 h2 q2
  refine am_icmp_eq dL_1313 (by decide : ((1313 : Nat) : Int) + 363 = ((1676 : Nat) : Int)) (fun _ => ?_) (fun hh => absurd rfl hh)
  exact tr_wk (by omega) (by omega) (kk h2 H2)
theorem lw_c48 {l : Launch} {G : GM} {n k u : Nat} {h : List va_E} {Q : Option Value → List va_E → Prop} (H : HZ G h n) (hn : n ≤ 511) (hi : 6 * n + 6 ≤ gL G) (hL : gL G ≤ 3072) (hk : 112 ≤ k) (hu : 8004 ≤ u) (kk : ∀ h1, HZ G h1 (n + 1) → Tr l G mL 22 (k - 112) (u - 8004) 1676 (lwV G n) [] h1 Q) : Tr l G mL 22 k u 1318 (lwV G n) [] h Q := by
  obtain ⟨d1, d2, k1, u1, Q1, b1, b2, b3, b4, C6, hq⟩ := st_boxCount (l := l) H (by omega)
  obtain ⟨f0, hc0⟩ := hz_c00 H
  refine am_aload_n dL_1318 2 rfl ?_
  refine am_callV (As := []) (rest := []) dL_1319 kML_209 rfl hc0 rfl rfl (Nat.le_of_ble_eq_true rfl) (d2 := d1) (by omega) (k2 := k1) (by omega) (u2 := u1) (by omega) (Nat.le_of_ble_eq_true rfl) C6 (fun v h1 q => ?_)
  obtain ⟨x1, rfl, ⟨fs, hc1⟩, Q2, C7, hq2⟩ := hq v h1 q
  refine am_aload_n dL_1322 1 rfl ?_
  refine am_callV (As := []) (rest := [.int x1]) dL_1323 kML_212 rfl hc1 rfl rfl (Nat.le_of_ble_eq_true rfl) (d2 := d2) (by omega) (k2 := 0) (Nat.zero_le _) (u2 := 0) (Nat.zero_le _) (Nat.le_of_ble_eq_true rfl) C7 (fun v2 h2 q2 => ?_)
  obtain ⟨rfl, H2⟩ := hq2 v2 h2 q2
  refine am_icmp_eq dL_1326 (by decide : ((1326 : Nat) : Int) + 350 = ((1676 : Nat) : Int)) (fun _ => ?_) (fun hh => absurd rfl hh)
  exact tr_wk (by omega) (by omega) (kk h2 H2)
theorem lw_c49 {l : Launch} {G : GM} {n k u : Nat} {h : List va_E} {Q : Option Value → List va_E → Prop} (H : HZ G h n) (hn : n ≤ 511) (hi : 6 * n + 6 ≤ gL G) (hL : gL G ≤ 3072) (hk : 112 ≤ k) (hu : 8004 ≤ u) (kk : ∀ h1, HZ G h1 (n + 1) → Tr l G mL 22 (k - 112) (u - 8004) 1676 (lwV G n) [] h1 Q) : Tr l G mL 22 k u 1331 (lwV G n) [] h Q := by
  obtain ⟨d1, d2, k1, u1, Q1, b1, b2, b3, b4, C6, hq⟩ := st_ifDays (l := l) H (by omega) (gX G (nI (6 * n) + 1).toNatClampNeg)
  obtain ⟨f0, hc0⟩ := hz_c00 H
  refine am_aload_n dL_1331 2 rfl ?_
  refine am_aload_n dL_1332 3 rfl ?_
  refine am_iload_n dL_1333 0 rfl ?_
  refine am_iconst (v := 1) dL_1334 (by decide) ?_
  refine am_iadd dL_1335 ?_
  refine am_sld dL_1336 (lw_in (j := 1) hi hL (by decide)) ?_
  refine am_callV (As := [.int (gX G (nI (6 * n) + 1).toNatClampNeg)]) (rest := []) dL_1337 kML_213 rfl hc0 rfl rfl (Nat.le_of_ble_eq_true rfl) (d2 := d1) (by omega) (k2 := k1) (by omega) (u2 := u1) (by omega) (Nat.le_of_ble_eq_true rfl) C6 (fun v h1 q => ?_)
  obtain ⟨x1, rfl, ⟨fs, hc1⟩, Q2, C7, hq2⟩ := hq v h1 q
  refine am_aload_n dL_1340 1 rfl ?_
  refine am_aload_n dL_1341 3 rfl ?_
  refine am_iload_n dL_1342 0 rfl ?_
  refine am_iconst (v := 1) dL_1343 (by decide) ?_
  refine am_iadd dL_1344 ?_
  refine am_sld dL_1345 (lw_in (j := 1) hi hL (by decide)) ?_
  refine am_callV (As := [.int (gX G (nI (6 * n) + 1).toNatClampNeg)]) (rest := [.int x1]) dL_1346 kML_216 rfl hc1 rfl rfl (Nat.le_of_ble_eq_true rfl) (d2 := d2) (by omega) (k2 := 0) (Nat.zero_le _) (u2 := 0) (Nat.zero_le _) (Nat.le_of_ble_eq_true rfl) C7 (fun v2 h2 q2 => ?_)
  obtain ⟨rfl, H2⟩ := hq2 v2 h2 q2
  refine am_icmp_eq dL_1349 (by decide : ((1349 : Nat) : Int) + 327 = ((1676 : Nat) : Int)) (fun _ => ?_) (fun hh => absurd rfl hh)
  exact tr_wk (by omega) (by omega) (kk h2 H2)
theorem lw_c50 {l : Launch} {G : GM} {n k u : Nat} {h : List va_E} {Q : Option Value → List va_E → Prop} (H : HZ G h n) (hn : n ≤ 511) (hi : 6 * n + 6 ≤ gL G) (hL : gL G ≤ 3072) (hk : 112 ≤ k) (hu : 8004 ≤ u) (kk : ∀ h1, HZ G h1 (n + 1) → Tr l G mL 22 (k - 112) (u - 8004) 1676 (lwV G n) [] h1 Q) : Tr l G mL 22 k u 1354 (lwV G n) [] h Q := by
  obtain ⟨d1, d2, k1, u1, Q1, b1, b2, b3, b4, C6, hq⟩ := st_bestDay (l := l) H (by omega) (gX G (nI (6 * n) + 1).toNatClampNeg)
  obtain ⟨f0, hc0⟩ := hz_c00 H
  refine am_aload_n dL_1354 2 rfl ?_
  refine am_aload_n dL_1355 3 rfl ?_
  refine am_iload_n dL_1356 0 rfl ?_
  refine am_iconst (v := 1) dL_1357 (by decide) ?_
  refine am_iadd dL_1358 ?_
  refine am_sld dL_1359 (lw_in (j := 1) hi hL (by decide)) ?_
  refine am_callV (As := [.int (gX G (nI (6 * n) + 1).toNatClampNeg)]) (rest := []) dL_1360 kML_217 rfl hc0 rfl rfl (Nat.le_of_ble_eq_true rfl) (d2 := d1) (by omega) (k2 := k1) (by omega) (u2 := u1) (by omega) (Nat.le_of_ble_eq_true rfl) C6 (fun v h1 q => ?_)
  obtain ⟨x1, rfl, ⟨fs, hc1⟩, Q2, C7, hq2⟩ := hq v h1 q
  refine am_aload_n dL_1363 1 rfl ?_
  refine am_aload_n dL_1364 3 rfl ?_
  refine am_iload_n dL_1365 0 rfl ?_
  refine am_iconst (v := 1) dL_1366 (by decide) ?_
  refine am_iadd dL_1367 ?_
  refine am_sld dL_1368 (lw_in (j := 1) hi hL (by decide)) ?_
  refine am_callV (As := [.int (gX G (nI (6 * n) + 1).toNatClampNeg)]) (rest := [.int x1]) dL_1369 kML_220 rfl hc1 rfl rfl (Nat.le_of_ble_eq_true rfl) (d2 := d2) (by omega) (k2 := 0) (Nat.zero_le _) (u2 := 0) (Nat.zero_le _) (Nat.le_of_ble_eq_true rfl) C7 (fun v2 h2 q2 => ?_)
  obtain ⟨rfl, H2⟩ := hq2 v2 h2 q2
  refine am_icmp_eq dL_1372 (by decide : ((1372 : Nat) : Int) + 304 = ((1676 : Nat) : Int)) (fun _ => ?_) (fun hh => absurd rfl hh)
  exact tr_wk (by omega) (by omega) (kk h2 H2)
theorem lw_c51 {l : Launch} {G : GM} {n k u : Nat} {h : List va_E} {Q : Option Value → List va_E → Prop} (H : HZ G h n) (hn : n ≤ 511) (hi : 6 * n + 6 ≤ gL G) (hL : gL G ≤ 3072) (hk : 112 ≤ k) (hu : 8004 ≤ u) (kk : ∀ h1, HZ G h1 (n + 1) → Tr l G mL 22 (k - 112) (u - 8004) 1676 (lwV G n) [] h1 Q) : Tr l G mL 22 k u 1377 (lwV G n) [] h Q := by
  obtain ⟨d1, d2, k1, u1, Q1, b1, b2, b3, b4, C6, hq⟩ := st_ifAllBoarded (l := l) H (by omega) (gX G (nI (6 * n) + 1).toNatClampNeg)
  obtain ⟨f0, hc0⟩ := hz_c00 H
  refine am_aload_n dL_1377 2 rfl ?_
  refine am_aload_n dL_1378 3 rfl ?_
  refine am_iload_n dL_1379 0 rfl ?_
  refine am_iconst (v := 1) dL_1380 (by decide) ?_
  refine am_iadd dL_1381 ?_
  refine am_sld dL_1382 (lw_in (j := 1) hi hL (by decide)) ?_
  refine am_callV (As := [.int (gX G (nI (6 * n) + 1).toNatClampNeg)]) (rest := []) dL_1383 kML_221 rfl hc0 rfl rfl (Nat.le_of_ble_eq_true rfl) (d2 := d1) (by omega) (k2 := k1) (by omega) (u2 := u1) (by omega) (Nat.le_of_ble_eq_true rfl) C6 (fun v h1 q => ?_)
  obtain ⟨x1, rfl, ⟨fs, hc1⟩, Q2, C7, hq2⟩ := hq v h1 q
  refine am_aload_n dL_1386 1 rfl ?_
  refine am_aload_n dL_1387 3 rfl ?_
  refine am_iload_n dL_1388 0 rfl ?_
  refine am_iconst (v := 1) dL_1389 (by decide) ?_
  refine am_iadd dL_1390 ?_
  refine am_sld dL_1391 (lw_in (j := 1) hi hL (by decide)) ?_
  refine am_callV (As := [.int (gX G (nI (6 * n) + 1).toNatClampNeg)]) (rest := [.int x1]) dL_1392 kML_224 rfl hc1 rfl rfl (Nat.le_of_ble_eq_true rfl) (d2 := d2) (by omega) (k2 := 0) (Nat.zero_le _) (u2 := 0) (Nat.zero_le _) (Nat.le_of_ble_eq_true rfl) C7 (fun v2 h2 q2 => ?_)
  obtain ⟨rfl, H2⟩ := hq2 v2 h2 q2
  refine am_icmp_eq dL_1395 (by decide : ((1395 : Nat) : Int) + 281 = ((1676 : Nat) : Int)) (fun _ => ?_) (fun hh => absurd rfl hh)
  exact tr_wk (by omega) (by omega) (kk h2 H2)
theorem lw_c52 {l : Launch} {G : GM} {n k u : Nat} {h : List va_E} {Q : Option Value → List va_E → Prop} (H : HZ G h n) (hn : n ≤ 511) (hi : 6 * n + 6 ≤ gL G) (hL : gL G ≤ 3072) (hk : 112 ≤ k) (hu : 8004 ≤ u) (kk : ∀ h1, HZ G h1 (n + 1) → Tr l G mL 22 (k - 112) (u - 8004) 1676 (lwV G n) [] h1 Q) : Tr l G mL 22 k u 1400 (lwV G n) [] h Q := by
  obtain ⟨d1, d2, k1, u1, Q1, b1, b2, b3, b4, C6, hq⟩ := st_bestShape (l := l) H (by omega)
  obtain ⟨f0, hc0⟩ := hz_c00 H
  refine am_aload_n dL_1400 2 rfl ?_
  refine am_callV (As := []) (rest := []) dL_1401 kML_225 rfl hc0 rfl rfl (Nat.le_of_ble_eq_true rfl) (d2 := d1) (by omega) (k2 := k1) (by omega) (u2 := u1) (by omega) (Nat.le_of_ble_eq_true rfl) C6 (fun v h1 q => ?_)
  obtain ⟨x1, rfl, ⟨fs, hc1⟩, Q2, C7, hq2⟩ := hq v h1 q
  refine am_aload_n dL_1404 1 rfl ?_
  refine am_callV (As := []) (rest := [.int x1]) dL_1405 kML_228 rfl hc1 rfl rfl (Nat.le_of_ble_eq_true rfl) (d2 := d2) (by omega) (k2 := 0) (Nat.zero_le _) (u2 := 0) (Nat.zero_le _) (Nat.le_of_ble_eq_true rfl) C7 (fun v2 h2 q2 => ?_)
  obtain ⟨rfl, H2⟩ := hq2 v2 h2 q2
  refine am_icmp_eq dL_1408 (by decide : ((1408 : Nat) : Int) + 268 = ((1676 : Nat) : Int)) (fun _ => ?_) (fun hh => absurd rfl hh)
  exact tr_wk (by omega) (by omega) (kk h2 H2)
theorem lw_c53 {l : Launch} {G : GM} {n k u : Nat} {h : List va_E} {Q : Option Value → List va_E → Prop} (H : HZ G h n) (hn : n ≤ 511) (hi : 6 * n + 6 ≤ gL G) (hL : gL G ≤ 3072) (hk : 112 ≤ k) (hu : 8004 ≤ u) (kk : ∀ h1, HZ G h1 (n + 1) → Tr l G mL 22 (k - 112) (u - 8004) 1676 (lwV G n) [] h1 Q) : Tr l G mL 22 k u 1413 (lwV G n) [] h Q := by
  obtain ⟨d1, d2, k1, u1, Q1, b1, b2, b3, b4, C6, hq⟩ := st_leastSteam (l := l) H (by omega) (gX G (nI (6 * n) + 1).toNatClampNeg) (gX G (nI (6 * n) + 2).toNatClampNeg)
  obtain ⟨f0, hc0⟩ := hz_c00 H
  refine am_aload_n dL_1413 2 rfl ?_
  refine am_aload_n dL_1414 3 rfl ?_
  refine am_iload_n dL_1415 0 rfl ?_
  refine am_iconst (v := 1) dL_1416 (by decide) ?_
  refine am_iadd dL_1417 ?_
  refine am_sld dL_1418 (lw_in (j := 1) hi hL (by decide)) ?_
  refine am_aload_n dL_1419 3 rfl ?_
  refine am_iload_n dL_1420 0 rfl ?_
  refine am_iconst (v := 2) dL_1421 (by decide) ?_
  refine am_iadd dL_1422 ?_
  refine am_sld dL_1423 (lw_in (j := 2) hi hL (by decide)) ?_
  refine am_callV (As := [.int (gX G (nI (6 * n) + 1).toNatClampNeg), .int (gX G (nI (6 * n) + 2).toNatClampNeg)]) (rest := []) dL_1424 kML_229 rfl hc0 rfl rfl (Nat.le_of_ble_eq_true rfl) (d2 := d1) (by omega) (k2 := k1) (by omega) (u2 := u1) (by omega) (Nat.le_of_ble_eq_true rfl) C6 (fun v h1 q => ?_)
  obtain ⟨x1, rfl, ⟨fs, hc1⟩, Q2, C7, hq2⟩ := hq v h1 q
  refine am_aload_n dL_1427 1 rfl ?_
  refine am_aload_n dL_1428 3 rfl ?_
  refine am_iload_n dL_1429 0 rfl ?_
  refine am_iconst (v := 1) dL_1430 (by decide) ?_
  refine am_iadd dL_1431 ?_
  refine am_sld dL_1432 (lw_in (j := 1) hi hL (by decide)) ?_
  refine am_aload_n dL_1433 3 rfl ?_
  refine am_iload_n dL_1434 0 rfl ?_
  refine am_iconst (v := 2) dL_1435 (by decide) ?_
  refine am_iadd dL_1436 ?_
  refine am_sld dL_1437 (lw_in (j := 2) hi hL (by decide)) ?_
  refine am_callV (As := [.int (gX G (nI (6 * n) + 1).toNatClampNeg), .int (gX G (nI (6 * n) + 2).toNatClampNeg)]) (rest := [.int x1]) dL_1438 kML_232 rfl hc1 rfl rfl (Nat.le_of_ble_eq_true rfl) (d2 := d2) (by omega) (k2 := 0) (Nat.zero_le _) (u2 := 0) (Nat.zero_le _) (Nat.le_of_ble_eq_true rfl) C7 (fun v2 h2 q2 => ?_)
  obtain ⟨rfl, H2⟩ := hq2 v2 h2 q2
  refine am_icmp_eq dL_1441 (by decide : ((1441 : Nat) : Int) + 235 = ((1676 : Nat) : Int)) (fun _ => ?_) (fun hh => absurd rfl hh)
  exact tr_wk (by omega) (by omega) (kk h2 H2)
theorem lw_c54 {l : Launch} {G : GM} {n k u : Nat} {h : List va_E} {Q : Option Value → List va_E → Prop} (H : HZ G h n) (hn : n ≤ 511) (hi : 6 * n + 6 ≤ gL G) (hL : gL G ≤ 3072) (hk : 112 ≤ k) (hu : 8004 ≤ u) (kk : ∀ h1, HZ G h1 (n + 1) → Tr l G mL 22 (k - 112) (u - 8004) 1676 (lwV G n) [] h1 Q) : Tr l G mL 22 k u 1446 (lwV G n) [] h Q := by
  obtain ⟨d1, d2, k1, u1, Q1, b1, b2, b3, b4, C6, hq⟩ := st_leastTolerance (l := l) H (by omega) (gX G (nI (6 * n) + 1).toNatClampNeg)
  obtain ⟨f0, hc0⟩ := hz_c00 H
  refine am_aload_n dL_1446 2 rfl ?_
  refine am_aload_n dL_1447 3 rfl ?_
  refine am_iload_n dL_1448 0 rfl ?_
  refine am_iconst (v := 1) dL_1449 (by decide) ?_
  refine am_iadd dL_1450 ?_
  refine am_sld dL_1451 (lw_in (j := 1) hi hL (by decide)) ?_
  refine am_callV (As := [.int (gX G (nI (6 * n) + 1).toNatClampNeg)]) (rest := []) dL_1452 kML_233 rfl hc0 rfl rfl (Nat.le_of_ble_eq_true rfl) (d2 := d1) (by omega) (k2 := k1) (by omega) (u2 := u1) (by omega) (Nat.le_of_ble_eq_true rfl) C6 (fun v h1 q => ?_)
  obtain ⟨x1, rfl, ⟨fs, hc1⟩, Q2, C7, hq2⟩ := hq v h1 q
  refine am_aload_n dL_1455 1 rfl ?_
  refine am_aload_n dL_1456 3 rfl ?_
  refine am_iload_n dL_1457 0 rfl ?_
  refine am_iconst (v := 1) dL_1458 (by decide) ?_
  refine am_iadd dL_1459 ?_
  refine am_sld dL_1460 (lw_in (j := 1) hi hL (by decide)) ?_
  refine am_callV (As := [.int (gX G (nI (6 * n) + 1).toNatClampNeg)]) (rest := [.int x1]) dL_1461 kML_236 rfl hc1 rfl rfl (Nat.le_of_ble_eq_true rfl) (d2 := d2) (by omega) (k2 := 0) (Nat.zero_le _) (u2 := 0) (Nat.zero_le _) (Nat.le_of_ble_eq_true rfl) C7 (fun v2 h2 q2 => ?_)
  obtain ⟨rfl, H2⟩ := hq2 v2 h2 q2
  refine am_icmp_eq dL_1464 (by decide : ((1464 : Nat) : Int) + 212 = ((1676 : Nat) : Int)) (fun _ => ?_) (fun hh => absurd rfl hh)
  exact tr_wk (by omega) (by omega) (kk h2 H2)
theorem lw_c55 {l : Launch} {G : GM} {n k u : Nat} {h : List va_E} {Q : Option Value → List va_E → Prop} (H : HZ G h n) (hn : n ≤ 511) (hi : 6 * n + 6 ≤ gL G) (hL : gL G ≤ 3072) (hk : 112 ≤ k) (hu : 8004 ≤ u) (kk : ∀ h1, HZ G h1 (n + 1) → Tr l G mL 22 (k - 112) (u - 8004) 1676 (lwV G n) [] h1 Q) : Tr l G mL 22 k u 1469 (lwV G n) [] h Q := by
  obtain ⟨d1, d2, k1, u1, Q1, b1, b2, b3, b4, C6, hq⟩ := st_bestDye (l := l) H (by omega) (gX G (nI (6 * n) + 1).toNatClampNeg)
  obtain ⟨f0, hc0⟩ := hz_c00 H
  refine am_aload_n dL_1469 2 rfl ?_
  refine am_aload_n dL_1470 3 rfl ?_
  refine am_iload_n dL_1471 0 rfl ?_
  refine am_iconst (v := 1) dL_1472 (by decide) ?_
  refine am_iadd dL_1473 ?_
  refine am_sld dL_1474 (lw_in (j := 1) hi hL (by decide)) ?_
  refine am_callV (As := [.int (gX G (nI (6 * n) + 1).toNatClampNeg)]) (rest := []) dL_1475 kML_237 rfl hc0 rfl rfl (Nat.le_of_ble_eq_true rfl) (d2 := d1) (by omega) (k2 := k1) (by omega) (u2 := u1) (by omega) (Nat.le_of_ble_eq_true rfl) C6 (fun v h1 q => ?_)
  obtain ⟨x1, rfl, ⟨fs, hc1⟩, Q2, C7, hq2⟩ := hq v h1 q
  refine am_aload_n dL_1478 1 rfl ?_
  refine am_aload_n dL_1479 3 rfl ?_
  refine am_iload_n dL_1480 0 rfl ?_
  refine am_iconst (v := 1) dL_1481 (by decide) ?_
  refine am_iadd dL_1482 ?_
  refine am_sld dL_1483 (lw_in (j := 1) hi hL (by decide)) ?_
  refine am_callV (As := [.int (gX G (nI (6 * n) + 1).toNatClampNeg)]) (rest := [.int x1]) dL_1484 kML_240 rfl hc1 rfl rfl (Nat.le_of_ble_eq_true rfl) (d2 := d2) (by omega) (k2 := 0) (Nat.zero_le _) (u2 := 0) (Nat.zero_le _) (Nat.le_of_ble_eq_true rfl) C7 (fun v2 h2 q2 => ?_)
  obtain ⟨rfl, H2⟩ := hq2 v2 h2 q2
  refine am_icmp_eq dL_1487 (by decide : ((1487 : Nat) : Int) + 189 = ((1676 : Nat) : Int)) (fun _ => ?_) (fun hh => absurd rfl hh)
  exact tr_wk (by omega) (by omega) (kk h2 H2)
theorem lw_c56 {l : Launch} {G : GM} {n k u : Nat} {h : List va_E} {Q : Option Value → List va_E → Prop} (H : HZ G h n) (hn : n ≤ 511) (hi : 6 * n + 6 ≤ gL G) (hL : gL G ≤ 3072) (hk : 112 ≤ k) (hu : 8004 ≤ u) (kk : ∀ h1, HZ G h1 (n + 1) → Tr l G mL 22 (k - 112) (u - 8004) 1676 (lwV G n) [] h1 Q) : Tr l G mL 22 k u 1492 (lwV G n) [] h Q := by
  obtain ⟨d1, d2, k1, u1, Q1, b1, b2, b3, b4, C6, hq⟩ := st_undo (l := l) H (by omega)
  obtain ⟨f0, hc0⟩ := hz_c00 H
  refine am_aload_n dL_1492 2 rfl ?_
  refine am_callV (As := []) (rest := []) dL_1493 kML_241 rfl hc0 rfl rfl (Nat.le_of_ble_eq_true rfl) (d2 := d1) (by omega) (k2 := k1) (by omega) (u2 := u1) (by omega) (Nat.le_of_ble_eq_true rfl) C6 (fun v h1 q => ?_)
  obtain ⟨x1, rfl, ⟨fs, hc1⟩, Q2, C7, hq2⟩ := hq v h1 q
  refine am_aload_n dL_1496 1 rfl ?_
  refine am_callV (As := []) (rest := [.int x1]) dL_1497 kML_244 rfl hc1 rfl rfl (Nat.le_of_ble_eq_true rfl) (d2 := d2) (by omega) (k2 := 0) (Nat.zero_le _) (u2 := 0) (Nat.zero_le _) (Nat.le_of_ble_eq_true rfl) C7 (fun v2 h2 q2 => ?_)
  obtain ⟨rfl, H2⟩ := hq2 v2 h2 q2
  refine am_icmp_eq dL_1500 (by decide : ((1500 : Nat) : Int) + 176 = ((1676 : Nat) : Int)) (fun _ => ?_) (fun hh => absurd rfl hh)
  exact tr_wk (by omega) (by omega) (kk h2 H2)
theorem lw_c57 {l : Launch} {G : GM} {n k u : Nat} {h : List va_E} {Q : Option Value → List va_E → Prop} (H : HZ G h n) (hn : n ≤ 511) (hi : 6 * n + 6 ≤ gL G) (hL : gL G ≤ 3072) (hk : 112 ≤ k) (hu : 8004 ≤ u) (kk : ∀ h1, HZ G h1 (n + 1) → Tr l G mL 22 (k - 112) (u - 8004) 1676 (lwV G n) [] h1 Q) : Tr l G mL 22 k u 1505 (lwV G n) [] h Q := by
  obtain ⟨d1, d2, k1, u1, Q1, b1, b2, b3, b4, C6, hq⟩ := st_writePlant (l := l) H (by omega)
  obtain ⟨f0, hc0⟩ := hz_c00 H
  refine am_aload_n dL_1505 2 rfl ?_
  refine am_callV (As := []) (rest := []) dL_1506 kML_245 rfl hc0 rfl rfl (Nat.le_of_ble_eq_true rfl) (d2 := d1) (by omega) (k2 := k1) (by omega) (u2 := u1) (by omega) (Nat.le_of_ble_eq_true rfl) C6 (fun v h1 q => ?_)
  obtain ⟨x1, rfl, ⟨fs, hc1⟩, Q2, C7, hq2⟩ := hq v h1 q
  refine am_aload_n dL_1509 1 rfl ?_
  refine am_callV (As := []) (rest := [.int x1]) dL_1510 kML_248 rfl hc1 rfl rfl (Nat.le_of_ble_eq_true rfl) (d2 := d2) (by omega) (k2 := 0) (Nat.zero_le _) (u2 := 0) (Nat.zero_le _) (Nat.le_of_ble_eq_true rfl) C7 (fun v2 h2 q2 => ?_)
  obtain ⟨rfl, H2⟩ := hq2 v2 h2 q2
  refine am_icmp_eq dL_1513 (by decide : ((1513 : Nat) : Int) + 163 = ((1676 : Nat) : Int)) (fun _ => ?_) (fun hh => absurd rfl hh)
  exact tr_wk (by omega) (by omega) (kk h2 H2)
theorem lw_c58 {l : Launch} {G : GM} {n k u : Nat} {h : List va_E} {Q : Option Value → List va_E → Prop} (H : HZ G h n) (hn : n ≤ 511) (hi : 6 * n + 6 ≤ gL G) (hL : gL G ≤ 3072) (hk : 112 ≤ k) (hu : 8004 ≤ u) (kk : ∀ h1, HZ G h1 (n + 1) → Tr l G mL 22 (k - 112) (u - 8004) 1676 (lwV G n) [] h1 Q) : Tr l G mL 22 k u 1518 (lwV G n) [] h Q := by
  obtain ⟨d1, d2, k1, u1, Q1, b1, b2, b3, b4, C6, hq⟩ := st_outputByte (l := l) H (by omega) (gX G (nI (6 * n) + 1).toNatClampNeg)
  obtain ⟨f0, hc0⟩ := hz_c00 H
  refine am_aload_n dL_1518 2 rfl ?_
  refine am_aload_n dL_1519 3 rfl ?_
  refine am_iload_n dL_1520 0 rfl ?_
  refine am_iconst (v := 1) dL_1521 (by decide) ?_
  refine am_iadd dL_1522 ?_
  refine am_sld dL_1523 (lw_in (j := 1) hi hL (by decide)) ?_
  refine am_callV (As := [.int (gX G (nI (6 * n) + 1).toNatClampNeg)]) (rest := []) dL_1524 kML_249 rfl hc0 rfl rfl (Nat.le_of_ble_eq_true rfl) (d2 := d1) (by omega) (k2 := k1) (by omega) (u2 := u1) (by omega) (Nat.le_of_ble_eq_true rfl) C6 (fun v h1 q => ?_)
  obtain ⟨x1, rfl, ⟨fs, hc1⟩, Q2, C7, hq2⟩ := hq v h1 q
  refine am_aload_n dL_1527 1 rfl ?_
  refine am_aload_n dL_1528 3 rfl ?_
  refine am_iload_n dL_1529 0 rfl ?_
  refine am_iconst (v := 1) dL_1530 (by decide) ?_
  refine am_iadd dL_1531 ?_
  refine am_sld dL_1532 (lw_in (j := 1) hi hL (by decide)) ?_
  refine am_callV (As := [.int (gX G (nI (6 * n) + 1).toNatClampNeg)]) (rest := [.int x1]) dL_1533 kML_252 rfl hc1 rfl rfl (Nat.le_of_ble_eq_true rfl) (d2 := d2) (by omega) (k2 := 0) (Nat.zero_le _) (u2 := 0) (Nat.zero_le _) (Nat.le_of_ble_eq_true rfl) C7 (fun v2 h2 q2 => ?_)
  obtain ⟨rfl, H2⟩ := hq2 v2 h2 q2
  refine am_icmp_eq dL_1536 (by decide : ((1536 : Nat) : Int) + 140 = ((1676 : Nat) : Int)) (fun _ => ?_) (fun hh => absurd rfl hh)
  exact tr_wk (by omega) (by omega) (kk h2 H2)
theorem lw_c59 {l : Launch} {G : GM} {n k u : Nat} {h : List va_E} {Q : Option Value → List va_E → Prop} (H : HZ G h n) (hn : n ≤ 511) (hi : 6 * n + 6 ≤ gL G) (hL : gL G ≤ 3072) (hk : 112 ≤ k) (hu : 8004 ≤ u) (kk : ∀ h1, HZ G h1 (n + 1) → Tr l G mL 22 (k - 112) (u - 8004) 1676 (lwV G n) [] h1 Q) : Tr l G mL 22 k u 1541 (lwV G n) [] h Q := by
  obtain ⟨d1, d2, k1, u1, Q1, b1, b2, b3, b4, C6, hq⟩ := st_ifTolerance (l := l) H (by omega) (gX G (nI (6 * n) + 1).toNatClampNeg) (gX G (nI (6 * n) + 2).toNatClampNeg)
  obtain ⟨f0, hc0⟩ := hz_c00 H
  refine am_aload_n dL_1541 2 rfl ?_
  refine am_aload_n dL_1542 3 rfl ?_
  refine am_iload_n dL_1543 0 rfl ?_
  refine am_iconst (v := 1) dL_1544 (by decide) ?_
  refine am_iadd dL_1545 ?_
  refine am_sld dL_1546 (lw_in (j := 1) hi hL (by decide)) ?_
  refine am_aload_n dL_1547 3 rfl ?_
  refine am_iload_n dL_1548 0 rfl ?_
  refine am_iconst (v := 2) dL_1549 (by decide) ?_
  refine am_iadd dL_1550 ?_
  refine am_sld dL_1551 (lw_in (j := 2) hi hL (by decide)) ?_
  refine am_callV (As := [.int (gX G (nI (6 * n) + 1).toNatClampNeg), .int (gX G (nI (6 * n) + 2).toNatClampNeg)]) (rest := []) dL_1552 kML_253 rfl hc0 rfl rfl (Nat.le_of_ble_eq_true rfl) (d2 := d1) (by omega) (k2 := k1) (by omega) (u2 := u1) (by omega) (Nat.le_of_ble_eq_true rfl) C6 (fun v h1 q => ?_)
  obtain ⟨x1, rfl, ⟨fs, hc1⟩, Q2, C7, hq2⟩ := hq v h1 q
  refine am_aload_n dL_1555 1 rfl ?_
  refine am_aload_n dL_1556 3 rfl ?_
  refine am_iload_n dL_1557 0 rfl ?_
  refine am_iconst (v := 1) dL_1558 (by decide) ?_
  refine am_iadd dL_1559 ?_
  refine am_sld dL_1560 (lw_in (j := 1) hi hL (by decide)) ?_
  refine am_aload_n dL_1561 3 rfl ?_
  refine am_iload_n dL_1562 0 rfl ?_
  refine am_iconst (v := 2) dL_1563 (by decide) ?_
  refine am_iadd dL_1564 ?_
  refine am_sld dL_1565 (lw_in (j := 2) hi hL (by decide)) ?_
  refine am_callV (As := [.int (gX G (nI (6 * n) + 1).toNatClampNeg), .int (gX G (nI (6 * n) + 2).toNatClampNeg)]) (rest := [.int x1]) dL_1566 kML_256 rfl hc1 rfl rfl (Nat.le_of_ble_eq_true rfl) (d2 := d2) (by omega) (k2 := 0) (Nat.zero_le _) (u2 := 0) (Nat.zero_le _) (Nat.le_of_ble_eq_true rfl) C7 (fun v2 h2 q2 => ?_)
  obtain ⟨rfl, H2⟩ := hq2 v2 h2 q2
  refine am_icmp_eq dL_1569 (by decide : ((1569 : Nat) : Int) + 107 = ((1676 : Nat) : Int)) (fun _ => ?_) (fun hh => absurd rfl hh)
  exact tr_wk (by omega) (by omega) (kk h2 H2)
theorem lw_c60 {l : Launch} {G : GM} {n k u : Nat} {h : List va_E} {Q : Option Value → List va_E → Prop} (H : HZ G h n) (hn : n ≤ 511) (hi : 6 * n + 6 ≤ gL G) (hL : gL G ≤ 3072) (hk : 112 ≤ k) (hu : 8004 ≤ u) (kk : ∀ h1, HZ G h1 (n + 1) → Tr l G mL 22 (k - 112) (u - 8004) 1676 (lwV G n) [] h1 Q) : Tr l G mL 22 k u 1574 (lwV G n) [] h Q := by
  obtain ⟨d1, d2, k1, u1, Q1, b1, b2, b3, b4, C6, hq⟩ := st_worstPair (l := l) H (by omega)
  obtain ⟨f0, hc0⟩ := hz_c00 H
  refine am_aload_n dL_1574 2 rfl ?_
  refine am_callV (As := []) (rest := []) dL_1575 kML_257 rfl hc0 rfl rfl (Nat.le_of_ble_eq_true rfl) (d2 := d1) (by omega) (k2 := k1) (by omega) (u2 := u1) (by omega) (Nat.le_of_ble_eq_true rfl) C6 (fun v h1 q => ?_)
  obtain ⟨x1, rfl, ⟨fs, hc1⟩, Q2, C7, hq2⟩ := hq v h1 q
  refine am_aload_n dL_1578 1 rfl ?_
  refine am_callV (As := []) (rest := [.int x1]) dL_1579 kML_260 rfl hc1 rfl rfl (Nat.le_of_ble_eq_true rfl) (d2 := d2) (by omega) (k2 := 0) (Nat.zero_le _) (u2 := 0) (Nat.zero_le _) (Nat.le_of_ble_eq_true rfl) C7 (fun v2 h2 q2 => ?_)
  obtain ⟨rfl, H2⟩ := hq2 v2 h2 q2
  refine am_icmp_eq dL_1582 (by decide : ((1582 : Nat) : Int) + 94 = ((1676 : Nat) : Int)) (fun _ => ?_) (fun hh => absurd rfl hh)
  exact tr_wk (by omega) (by omega) (kk h2 H2)
theorem lw_c61 {l : Launch} {G : GM} {n k u : Nat} {h : List va_E} {Q : Option Value → List va_E → Prop} (H : HZ G h n) (hn : n ≤ 511) (hi : 6 * n + 6 ≤ gL G) (hL : gL G ≤ 3072) (hk : 112 ≤ k) (hu : 8004 ≤ u) (kk : ∀ h1, HZ G h1 (n + 1) → Tr l G mL 22 (k - 112) (u - 8004) 1676 (lwV G n) [] h1 Q) : Tr l G mL 22 k u 1587 (lwV G n) [] h Q := by
  obtain ⟨d1, d2, k1, u1, Q1, b1, b2, b3, b4, C6, hq⟩ := st_ofYarn (l := l) H (by omega) (gX G (nI (6 * n) + 1).toNatClampNeg)
  obtain ⟨f0, hc0⟩ := hz_c00 H
  refine am_aload_n dL_1587 2 rfl ?_
  refine am_aload_n dL_1588 3 rfl ?_
  refine am_iload_n dL_1589 0 rfl ?_
  refine am_iconst (v := 1) dL_1590 (by decide) ?_
  refine am_iadd dL_1591 ?_
  refine am_sld dL_1592 (lw_in (j := 1) hi hL (by decide)) ?_
  refine am_callV (As := [.int (gX G (nI (6 * n) + 1).toNatClampNeg)]) (rest := []) dL_1593 kML_261 rfl hc0 rfl rfl (Nat.le_of_ble_eq_true rfl) (d2 := d1) (by omega) (k2 := k1) (by omega) (u2 := u1) (by omega) (Nat.le_of_ble_eq_true rfl) C6 (fun v h1 q => ?_)
  obtain ⟨x1, rfl, ⟨fs, hc1⟩, Q2, C7, hq2⟩ := hq v h1 q
  refine am_aload_n dL_1596 1 rfl ?_
  refine am_aload_n dL_1597 3 rfl ?_
  refine am_iload_n dL_1598 0 rfl ?_
  refine am_iconst (v := 1) dL_1599 (by decide) ?_
  refine am_iadd dL_1600 ?_
  refine am_sld dL_1601 (lw_in (j := 1) hi hL (by decide)) ?_
  refine am_callV (As := [.int (gX G (nI (6 * n) + 1).toNatClampNeg)]) (rest := [.int x1]) dL_1602 kML_264 rfl hc1 rfl rfl (Nat.le_of_ble_eq_true rfl) (d2 := d2) (by omega) (k2 := 0) (Nat.zero_le _) (u2 := 0) (Nat.zero_le _) (Nat.le_of_ble_eq_true rfl) C7 (fun v2 h2 q2 => ?_)
  obtain ⟨rfl, H2⟩ := hq2 v2 h2 q2
  refine am_icmp_eq dL_1605 (by decide : ((1605 : Nat) : Int) + 71 = ((1676 : Nat) : Int)) (fun _ => ?_) (fun hh => absurd rfl hh)
  exact tr_wk (by omega) (by omega) (kk h2 H2)
theorem lw_c62 {l : Launch} {G : GM} {n k u : Nat} {h : List va_E} {Q : Option Value → List va_E → Prop} (H : HZ G h n) (hn : n ≤ 511) (hi : 6 * n + 6 ≤ gL G) (hL : gL G ≤ 3072) (hk : 112 ≤ k) (hu : 8004 ≤ u) (kk : ∀ h1, HZ G h1 (n + 1) → Tr l G mL 22 (k - 112) (u - 8004) 1676 (lwV G n) [] h1 Q) : Tr l G mL 22 k u 1610 (lwV G n) [] h Q := by
  obtain ⟨d1, d2, k1, u1, Q1, b1, b2, b3, b4, C6, hq⟩ := st_daysToSize (l := l) H (by omega) (gX G (nI (6 * n) + 1).toNatClampNeg) (gX G (nI (6 * n) + 2).toNatClampNeg)
  obtain ⟨f0, hc0⟩ := hz_c00 H
  refine am_aload_n dL_1610 2 rfl ?_
  refine am_aload_n dL_1611 3 rfl ?_
  refine am_iload_n dL_1612 0 rfl ?_
  refine am_iconst (v := 1) dL_1613 (by decide) ?_
  refine am_iadd dL_1614 ?_
  refine am_sld dL_1615 (lw_in (j := 1) hi hL (by decide)) ?_
  refine am_aload_n dL_1616 3 rfl ?_
  refine am_iload_n dL_1617 0 rfl ?_
  refine am_iconst (v := 2) dL_1618 (by decide) ?_
  refine am_iadd dL_1619 ?_
  refine am_sld dL_1620 (lw_in (j := 2) hi hL (by decide)) ?_
  refine am_callV (As := [.int (gX G (nI (6 * n) + 1).toNatClampNeg), .int (gX G (nI (6 * n) + 2).toNatClampNeg)]) (rest := []) dL_1621 kML_265 rfl hc0 rfl rfl (Nat.le_of_ble_eq_true rfl) (d2 := d1) (by omega) (k2 := k1) (by omega) (u2 := u1) (by omega) (Nat.le_of_ble_eq_true rfl) C6 (fun v h1 q => ?_)
  obtain ⟨x1, rfl, ⟨fs, hc1⟩, Q2, C7, hq2⟩ := hq v h1 q
  refine am_aload_n dL_1624 1 rfl ?_
  refine am_aload_n dL_1625 3 rfl ?_
  refine am_iload_n dL_1626 0 rfl ?_
  refine am_iconst (v := 1) dL_1627 (by decide) ?_
  refine am_iadd dL_1628 ?_
  refine am_sld dL_1629 (lw_in (j := 1) hi hL (by decide)) ?_
  refine am_aload_n dL_1630 3 rfl ?_
  refine am_iload_n dL_1631 0 rfl ?_
  refine am_iconst (v := 2) dL_1632 (by decide) ?_
  refine am_iadd dL_1633 ?_
  refine am_sld dL_1634 (lw_in (j := 2) hi hL (by decide)) ?_
  refine am_callV (As := [.int (gX G (nI (6 * n) + 1).toNatClampNeg), .int (gX G (nI (6 * n) + 2).toNatClampNeg)]) (rest := [.int x1]) dL_1635 kML_268 rfl hc1 rfl rfl (Nat.le_of_ble_eq_true rfl) (d2 := d2) (by omega) (k2 := 0) (Nat.zero_le _) (u2 := 0) (Nat.zero_le _) (Nat.le_of_ble_eq_true rfl) C7 (fun v2 h2 q2 => ?_)
  obtain ⟨rfl, H2⟩ := hq2 v2 h2 q2
  refine am_icmp_eq dL_1638 (by decide : ((1638 : Nat) : Int) + 38 = ((1676 : Nat) : Int)) (fun _ => ?_) (fun hh => absurd rfl hh)
  exact tr_wk (by omega) (by omega) (kk h2 H2)
theorem lw_c63 {l : Launch} {G : GM} {n k u : Nat} {h : List va_E} {Q : Option Value → List va_E → Prop} (H : HZ G h n) (hn : n ≤ 511) (hi : 6 * n + 6 ≤ gL G) (hL : gL G ≤ 3072) (hk : 112 ≤ k) (hu : 8004 ≤ u) (kk : ∀ h1, HZ G h1 (n + 1) → Tr l G mL 22 (k - 112) (u - 8004) 1676 (lwV G n) [] h1 Q) : Tr l G mL 22 k u 1643 (lwV G n) [] h Q := by
  obtain ⟨d1, d2, k1, u1, Q1, b1, b2, b3, b4, C6, hq⟩ := st_shapeFor (l := l) H (by omega) (gX G (nI (6 * n) + 1).toNatClampNeg) (gX G (nI (6 * n) + 2).toNatClampNeg)
  obtain ⟨f0, hc0⟩ := hz_c00 H
  refine am_aload_n dL_1643 2 rfl ?_
  refine am_aload_n dL_1644 3 rfl ?_
  refine am_iload_n dL_1645 0 rfl ?_
  refine am_iconst (v := 1) dL_1646 (by decide) ?_
  refine am_iadd dL_1647 ?_
  refine am_sld dL_1648 (lw_in (j := 1) hi hL (by decide)) ?_
  refine am_aload_n dL_1649 3 rfl ?_
  refine am_iload_n dL_1650 0 rfl ?_
  refine am_iconst (v := 2) dL_1651 (by decide) ?_
  refine am_iadd dL_1652 ?_
  refine am_sld dL_1653 (lw_in (j := 2) hi hL (by decide)) ?_
  refine am_callV (As := [.int (gX G (nI (6 * n) + 1).toNatClampNeg), .int (gX G (nI (6 * n) + 2).toNatClampNeg)]) (rest := []) dL_1654 kML_269 rfl hc0 rfl rfl (Nat.le_of_ble_eq_true rfl) (d2 := d1) (by omega) (k2 := k1) (by omega) (u2 := u1) (by omega) (Nat.le_of_ble_eq_true rfl) C6 (fun v h1 q => ?_)
  obtain ⟨x1, rfl, ⟨fs, hc1⟩, Q2, C7, hq2⟩ := hq v h1 q
  refine am_aload_n dL_1657 1 rfl ?_
  refine am_aload_n dL_1658 3 rfl ?_
  refine am_iload_n dL_1659 0 rfl ?_
  refine am_iconst (v := 1) dL_1660 (by decide) ?_
  refine am_iadd dL_1661 ?_
  refine am_sld dL_1662 (lw_in (j := 1) hi hL (by decide)) ?_
  refine am_aload_n dL_1663 3 rfl ?_
  refine am_iload_n dL_1664 0 rfl ?_
  refine am_iconst (v := 2) dL_1665 (by decide) ?_
  refine am_iadd dL_1666 ?_
  refine am_sld dL_1667 (lw_in (j := 2) hi hL (by decide)) ?_
  refine am_callV (As := [.int (gX G (nI (6 * n) + 1).toNatClampNeg), .int (gX G (nI (6 * n) + 2).toNatClampNeg)]) (rest := [.int x1]) dL_1668 kML_272 rfl hc1 rfl rfl (Nat.le_of_ble_eq_true rfl) (d2 := d2) (by omega) (k2 := 0) (Nat.zero_le _) (u2 := 0) (Nat.zero_le _) (Nat.le_of_ble_eq_true rfl) C7 (fun v2 h2 q2 => ?_)
  obtain ⟨rfl, H2⟩ := hq2 v2 h2 q2
  refine am_icmp_eq dL_1671 (by decide : ((1671 : Nat) : Int) + 5 = ((1676 : Nat) : Int)) (fun _ => ?_) (fun hh => absurd rfl hh)
  exact tr_wk (by omega) (by omega) (kk h2 H2)
