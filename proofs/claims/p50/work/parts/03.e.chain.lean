/-! one list of words for all methods: a chain, each word known to lie in it -/
def wB604 : List Cond := []
def wB603 : List Cond := Cond.static yL_areAll :: wB604
def wB602 : List Cond := Cond.methodLink RL 185 yL_areAll :: wB603
def wB601 : List Cond := Cond.static yL_isRead :: wB602
def wB600 : List Cond := Cond.methodLink RL 181 yL_isRead :: wB601
def wB599 : List Cond := Cond.static yL_clocks :: wB600
def wB598 : List Cond := Cond.methodLink RL 178 yL_clocks :: wB599
def wB597 : List Cond := Cond.static yL_does :: wB598
def wB596 : List Cond := Cond.methodLink RL 175 yL_does :: wB597
def wB595 : List Cond := Cond.static yL_cell :: wB596
def wB594 : List Cond := Cond.methodLink RL 171 yL_cell :: wB595
def wB593 : List Cond := Cond.selects RX6 yX6_savedStates yX6_savedStates :: wB594
def wB592 : List Cond := Cond.instanceMethod yX6_savedStates :: wB593
def wB591 : List Cond := Cond.methodLink RL 168 yX6_savedStates :: wB592
def wB590 : List Cond := Cond.instanceMethod yX6_init :: wB591
def wB589 : List Cond := Cond.methodLink RL 167 yX6_init :: wB590
def wB588 : List Cond := Cond.instantiable RX6 5 :: wB589
def wB587 : List Cond := Cond.classLink RL 9 RX6 :: wB588
def wB586 : List Cond := Cond.code yL_isRead cL_isRead 8 (some .boolean) :: wB587
def wB585 : List Cond := Cond.selects RX6 yX6_ticksUntilSafe yX6_ticksUntilSafe :: wB586
def wB584 : List Cond := Cond.instanceMethod yX6_ticksUntilSafe :: wB585
def wB583 : List Cond := Cond.methodLink RL 164 yX6_ticksUntilSafe :: wB584
def wB582 : List Cond := Cond.static yL_snapshots :: wB583
def wB581 : List Cond := Cond.methodLink RL 161 yL_snapshots :: wB582
def wB580 : List Cond := Cond.code yL_clocks cL_clocks 8 (some .boolean) :: wB581
def wB579 : List Cond := Cond.selects RX6 yX6_isSound yX6_isSound :: wB580
def wB578 : List Cond := Cond.instanceMethod yX6_isSound :: wB579
def wB577 : List Cond := Cond.methodLink RL 157 yX6_isSound :: wB578
def wB576 : List Cond := Cond.selects RX6 yX6_earliest yX6_earliest :: wB577
def wB575 : List Cond := Cond.instanceMethod yX6_earliest :: wB576
def wB574 : List Cond := Cond.methodLink RL 154 yX6_earliest :: wB575
def wB573 : List Cond := Cond.selects RX6 yX6_latest yX6_latest :: wB574
def wB572 : List Cond := Cond.instanceMethod yX6_latest :: wB573
def wB571 : List Cond := Cond.methodLink RL 151 yX6_latest :: wB572
def wB570 : List Cond := Cond.selects RX6 yX6_setUncertainty yX6_setUncertainty :: wB571
def wB569 : List Cond := Cond.instanceMethod yX6_setUncertainty :: wB570
def wB568 : List Cond := Cond.methodLink RL 148 yX6_setUncertainty :: wB569
def wB567 : List Cond := Cond.selects RX6 yX6_setDrift yX6_setDrift :: wB568
def wB566 : List Cond := Cond.instanceMethod yX6_setDrift :: wB567
def wB565 : List Cond := Cond.methodLink RL 145 yX6_setDrift :: wB566
def wB564 : List Cond := Cond.selects RX6 yX6_synchronize yX6_synchronize :: wB565
def wB563 : List Cond := Cond.instanceMethod yX6_synchronize :: wB564
def wB562 : List Cond := Cond.methodLink RL 142 yX6_synchronize :: wB563
def wB561 : List Cond := Cond.selects RX6 yX6_reading yX6_reading :: wB562
def wB560 : List Cond := Cond.instanceMethod yX6_reading :: wB561
def wB559 : List Cond := Cond.methodLink RL 139 yX6_reading :: wB560
def wB558 : List Cond := Cond.code yL_does cL_does 11 (some .boolean) :: wB559
def wB557 : List Cond := Cond.selects RX6 yX6_advance yX6_advance :: wB558
def wB556 : List Cond := Cond.instanceMethod yX6_advance :: wB557
def wB555 : List Cond := Cond.methodLink RL 136 yX6_advance :: wB556
def wB554 : List Cond := Cond.selects RX6 yX6_trueTime yX6_trueTime :: wB555
def wB553 : List Cond := Cond.instanceMethod yX6_trueTime :: wB554
def wB552 : List Cond := Cond.methodLink RL 133 yX6_trueTime :: wB553
def wB551 : List Cond := Cond.static yL_aborts :: wB552
def wB550 : List Cond := Cond.methodLink RL 130 yL_aborts :: wB551
def wB549 : List Cond := Cond.static yL_commits :: wB550
def wB548 : List Cond := Cond.methodLink RL 127 yL_commits :: wB549
def wB547 : List Cond := Cond.selects RX6 yX6_ifCommitted yX6_ifCommitted :: wB548
def wB546 : List Cond := Cond.instanceMethod yX6_ifCommitted :: wB547
def wB545 : List Cond := Cond.methodLink RL 124 yX6_ifCommitted :: wB546
def wB544 : List Cond := Cond.static yL_writes :: wB545
def wB543 : List Cond := Cond.methodLink RL 120 yL_writes :: wB544
def wB542 : List Cond := Cond.static yL_reads :: wB543
def wB541 : List Cond := Cond.methodLink RL 117 yL_reads :: wB542
def wB540 : List Cond := Cond.static yL_begins :: wB541
def wB539 : List Cond := Cond.methodLink RL 112 yL_begins :: wB540
def wB538 : List Cond := Cond.static yL_low :: wB539
def wB537 : List Cond := Cond.methodLink RL 109 yL_low :: wB538
def wB536 : List Cond := Cond.constant RL 116 (2000000000) :: wB537
def wB535 : List Cond := Cond.code yL_areAll cL_areAll 6 (some .boolean) :: wB536
def wB534 : List Cond := Cond.selects RX6 yX6_readFloor yX6_readFloor :: wB535
def wB533 : List Cond := Cond.instanceMethod yX6_readFloor :: wB534
def wB532 : List Cond := Cond.methodLink RL 106 yX6_readFloor :: wB533
def wB531 : List Cond := Cond.selects RX6 yX6_inversions yX6_inversions :: wB532
def wB530 : List Cond := Cond.instanceMethod yX6_inversions :: wB531
def wB529 : List Cond := Cond.methodLink RL 103 yX6_inversions :: wB530
def wB528 : List Cond := Cond.selects RX6 yX6_countInState yX6_countInState :: wB529
def wB527 : List Cond := Cond.instanceMethod yX6_countInState :: wB528
def wB526 : List Cond := Cond.methodLink RL 100 yX6_countInState :: wB527
def wB525 : List Cond := Cond.selects RX6 yX6_totalWait yX6_totalWait :: wB526
def wB524 : List Cond := Cond.instanceMethod yX6_totalWait :: wB525
def wB523 : List Cond := Cond.methodLink RL 97 yX6_totalWait :: wB524
def wB522 : List Cond := Cond.static yL_areVersions :: wB523
def wB521 : List Cond := Cond.methodLink RL 93 yL_areVersions :: wB522
def wB520 : List Cond := Cond.selects RX6 yX6_unsoundUses yX6_unsoundUses :: wB521
def wB519 : List Cond := Cond.instanceMethod yX6_unsoundUses :: wB520
def wB518 : List Cond := Cond.methodLink RL 90 yX6_unsoundUses :: wB519
def wB517 : List Cond := Cond.static yL_isOne :: wB518
def wB516 : List Cond := Cond.methodLink RL 86 yL_isOne :: wB517
def wB515 : List Cond := Cond.selects RX6 yX6_transactions yX6_transactions :: wB516
def wB514 : List Cond := Cond.instanceMethod yX6_transactions :: wB515
def wB513 : List Cond := Cond.methodLink RL 83 yX6_transactions :: wB514
def wB512 : List Cond := Cond.code yL_isOne cL_isOne 9 (some .boolean) :: wB513
def wB511 : List Cond := Cond.selects RX6 yX6_ticksToCommit yX6_ticksToCommit :: wB512
def wB510 : List Cond := Cond.instanceMethod yX6_ticksToCommit :: wB511
def wB509 : List Cond := Cond.methodLink RL 80 yX6_ticksToCommit :: wB510
def wB508 : List Cond := Cond.selects RX6 yX6_safeTime yX6_safeTime :: wB509
def wB507 : List Cond := Cond.instanceMethod yX6_safeTime :: wB508
def wB506 : List Cond := Cond.methodLink RL 76 yX6_safeTime :: wB507
def wB505 : List Cond := Cond.selects RX6 yX6_waitingWriter yX6_waitingWriter :: wB506
def wB504 : List Cond := Cond.instanceMethod yX6_waitingWriter :: wB505
def wB503 : List Cond := Cond.methodLink RL 73 yX6_waitingWriter :: wB504
def wB502 : List Cond := Cond.selects RX6 yX6_readerMark yX6_readerMark :: wB503
def wB501 : List Cond := Cond.instanceMethod yX6_readerMark :: wB502
def wB500 : List Cond := Cond.methodLink RL 70 yX6_readerMark :: wB501
def wB499 : List Cond := Cond.initialized RL :: wB500
def wB498 : List Cond := Cond.static yL_newestBelow :: wB499
def wB497 : List Cond := Cond.methodLink RL 64 yL_newestBelow :: wB498
def wB496 : List Cond := Cond.selects RX6 yX6_bufferedValue yX6_bufferedValue :: wB497
def wB495 : List Cond := Cond.instanceMethod yX6_bufferedValue :: wB496
def wB494 : List Cond := Cond.methodLink RL 61 yX6_bufferedValue :: wB495
def wB493 : List Cond := Cond.selects RX6 yX6_recordedTimestamp yX6_recordedTimestamp :: wB494
def wB492 : List Cond := Cond.instanceMethod yX6_recordedTimestamp :: wB493
def wB491 : List Cond := Cond.methodLink RL 58 yX6_recordedTimestamp :: wB492
def wB490 : List Cond := Cond.selects RX6 yX6_commitTime yX6_commitTime :: wB491
def wB489 : List Cond := Cond.instanceMethod yX6_commitTime :: wB490
def wB488 : List Cond := Cond.methodLink RL 55 yX6_commitTime :: wB489
def wB487 : List Cond := Cond.selects RX6 yX6_requestTime yX6_requestTime :: wB488
def wB486 : List Cond := Cond.instanceMethod yX6_requestTime :: wB487
def wB485 : List Cond := Cond.methodLink RL 52 yX6_requestTime :: wB486
def wB484 : List Cond := Cond.selects RX6 yX6_timestamp yX6_timestamp :: wB485
def wB483 : List Cond := Cond.instanceMethod yX6_timestamp :: wB484
def wB482 : List Cond := Cond.methodLink RL 49 yX6_timestamp :: wB483
def wB481 : List Cond := Cond.selects RX6 yX6_state yX6_state :: wB482
def wB480 : List Cond := Cond.instanceMethod yX6_state :: wB481
def wB479 : List Cond := Cond.methodLink RL 46 yX6_state :: wB480
def wB478 : List Cond := Cond.code yL_areVersions cL_areVersions 6 (some .boolean) :: wB479
def wB477 : List Cond := Cond.selects RX6 yX6_replayedValueAt yX6_replayedValueAt :: wB478
def wB476 : List Cond := Cond.instanceMethod yX6_replayedValueAt :: wB477
def wB475 : List Cond := Cond.methodLink RL 43 yX6_replayedValueAt :: wB476
def wB474 : List Cond := Cond.selects RX6 yX6_valueAt yX6_valueAt :: wB475
def wB473 : List Cond := Cond.instanceMethod yX6_valueAt :: wB474
def wB472 : List Cond := Cond.methodLink RL 40 yX6_valueAt :: wB473
def wB471 : List Cond := Cond.selects RX6 yX6_versionTimestamp yX6_versionTimestamp :: wB472
def wB470 : List Cond := Cond.instanceMethod yX6_versionTimestamp :: wB471
def wB469 : List Cond := Cond.methodLink RL 37 yX6_versionTimestamp :: wB470
def wB468 : List Cond := Cond.selects RX6 yX6_versions yX6_versions :: wB469
def wB467 : List Cond := Cond.instanceMethod yX6_versions :: wB468
def wB466 : List Cond := Cond.methodLink RL 34 yX6_versions :: wB467
def wB465 : List Cond := Cond.code yL_newestBelow cL_newestBelow 6 (some .int) :: wB466
def wB464 : List Cond := Cond.codeWith yL_snapshots cL_snapshots 4 (some .int) [(0, 6, 7, 14)] :: wB465
def wB463 : List Cond := Cond.selects RX6 yX6_snapshotRead yX6_snapshotRead :: wB464
def wB462 : List Cond := Cond.instanceMethod yX6_snapshotRead :: wB463
def wB461 : List Cond := Cond.methodLink RL 31 yX6_snapshotRead :: wB462
def wB460 : List Cond := Cond.codeWith yL_aborts cL_aborts 3 (some .int) [(0, 5, 6, 14)] :: wB461
def wB459 : List Cond := Cond.selects RX6 yX6_abort yX6_abort :: wB460
def wB458 : List Cond := Cond.instanceMethod yX6_abort :: wB459
def wB457 : List Cond := Cond.methodLink RL 28 yX6_abort :: wB458
def wB456 : List Cond := Cond.codeWith yL_commits cL_commits 3 (some .int) [(0, 5, 6, 14)] :: wB457
def wB455 : List Cond := Cond.selects RX6 yX6_commit yX6_commit :: wB456
def wB454 : List Cond := Cond.instanceMethod yX6_commit :: wB455
def wB453 : List Cond := Cond.methodLink RL 25 yX6_commit :: wB454
def wB452 : List Cond := Cond.codeWith yL_writes cL_writes 5 (some .int) [(0, 7, 8, 14)] :: wB453
def wB451 : List Cond := Cond.selects RX6 yX6_write yX6_write :: wB452
def wB450 : List Cond := Cond.instanceMethod yX6_write :: wB451
def wB449 : List Cond := Cond.methodLink RL 21 yX6_write :: wB450
def wB448 : List Cond := Cond.codeWith yL_reads cL_reads 4 (some .int) [(0, 6, 7, 14)] :: wB449
def wB447 : List Cond := Cond.selects RX6 yX6_read yX6_read :: wB448
def wB446 : List Cond := Cond.instanceMethod yX6_read :: wB447
def wB445 : List Cond := Cond.methodLink RL 17 yX6_read :: wB446
def wB444 : List Cond := Cond.codeWith yL_begins cL_begins 3 (some .int) [(0, 5, 6, 14)] :: wB445
def wB443 : List Cond := Cond.selects RX6 yX6_begin yX6_begin :: wB444
def wB442 : List Cond := Cond.instanceMethod yX6_begin :: wB443
def wB441 : List Cond := Cond.methodLink RL 8 yX6_begin :: wB442
def wB440 : List Cond := Cond.constant RL 16 (-1000000) :: wB441
def wB439 : List Cond := Cond.classLink RL 14 "java/lang/IllegalStateException" :: wB440
def wB438 : List Cond := Cond.constant RL 7 (2147483647) :: wB439
def wB437 : List Cond := Cond.code yL_low cL_low 2 (some .int) :: wB438
def wB436 : List Cond := Cond.code yL_cell cL_cell 2 (some .int) :: wB437
def wB435 : List Cond := Cond.code yJ9_min_7cf53 cJ9_min_7cf53 2 (some .int) :: wB436
def wB434 : List Cond := Cond.code yJ9_max_7cf53 cJ9_max_7cf53 2 (some .int) :: wB435
def wB433 : List Cond := Cond.fieldLink RX6 194 "CommitWaitStore$SavedStates" "count" "I" :: wB434
def wB432 : List Cond := Cond.code yX6_savedStates cX6_savedStates 1 (some .int) :: wB433
def wB431 : List Cond := Cond.selects RX4 yX4_countInversions yX4_countInversions :: wB432
def wB430 : List Cond := Cond.instanceMethod yX4_countInversions :: wB431
def wB429 : List Cond := Cond.methodLink RX6 280 yX4_countInversions :: wB430
def wB428 : List Cond := Cond.code yX6_inversions cX6_inversions 1 (some .int) :: wB429
def wB427 : List Cond := Cond.fieldLink RX6 277 "CommitWaitStore$State" "unsoundUses" "I" :: wB428
def wB426 : List Cond := Cond.code yX6_unsoundUses cX6_unsoundUses 1 (some .int) :: wB427
def wB425 : List Cond := Cond.selects RX4 yX4_sumOfWaits yX4_sumOfWaits :: wB426
def wB424 : List Cond := Cond.instanceMethod yX4_sumOfWaits :: wB425
def wB423 : List Cond := Cond.methodLink RX6 274 yX4_sumOfWaits :: wB424
def wB422 : List Cond := Cond.code yX6_totalWait cX6_totalWait 1 (some .int) :: wB423
def wB421 : List Cond := Cond.selects RX4 yX4_countWithStatus yX4_countWithStatus :: wB422
def wB420 : List Cond := Cond.instanceMethod yX4_countWithStatus :: wB421
def wB419 : List Cond := Cond.methodLink RX6 271 yX4_countWithStatus :: wB420
def wB418 : List Cond := Cond.code yX6_countInState cX6_countInState 2 (some .int) :: wB419
def wB417 : List Cond := Cond.code yX6_ticksUntilSafe cX6_ticksUntilSafe 3 (some .int) :: wB418
def wB416 : List Cond := Cond.selects RX2 yX2_ticksUntilSafeAt yX2_ticksUntilSafeAt :: wB417
def wB415 : List Cond := Cond.instanceMethod yX2_ticksUntilSafeAt :: wB416
def wB414 : List Cond := Cond.methodLink RX6 268 yX2_ticksUntilSafeAt :: wB415
def wB413 : List Cond := Cond.code yX6_readFloor cX6_readFloor 1 (some .int) :: wB414
def wB412 : List Cond := Cond.code yX6_safeTime cX6_safeTime 1 (some .int) :: wB413
def wB411 : List Cond := Cond.code yX6_readerMark cX6_readerMark 2 (some .int) :: wB412
def wB410 : List Cond := Cond.methodLink RX6 265 yX4_greatestReaderTimestamp :: wB411
def wB409 : List Cond := Cond.selects RX4 yX4_findWaitingWriter yX4_findWaitingWriter :: wB410
def wB408 : List Cond := Cond.instanceMethod yX4_findWaitingWriter :: wB409
def wB407 : List Cond := Cond.methodLink RX6 262 yX4_findWaitingWriter :: wB408
def wB406 : List Cond := Cond.code yX6_waitingWriter cX6_waitingWriter 2 (some .int) :: wB407
def wB405 : List Cond := Cond.code yX6_replayedValueAt cX6_replayedValueAt 3 (some .int) :: wB406
def wB404 : List Cond := Cond.selects RX4 yX4_replay yX4_replay :: wB405
def wB403 : List Cond := Cond.instanceMethod yX4_replay :: wB404
def wB402 : List Cond := Cond.methodLink RX6 259 yX4_replay :: wB403
def wB401 : List Cond := Cond.code yX6_valueAt cX6_valueAt 3 (some .int) :: wB402
def wB400 : List Cond := Cond.code yX6_versionTimestamp cX6_versionTimestamp 3 (some .int) :: wB401
def wB399 : List Cond := Cond.fieldLink RX6 252 "CommitWaitStore$Versions" "count" "[I" :: wB400
def wB398 : List Cond := Cond.code yX6_versions cX6_versions 2 (some .int) :: wB399
def wB397 : List Cond := Cond.code yX6_ticksToCommit cX6_ticksToCommit 3 (some .int) :: wB398
def wB396 : List Cond := Cond.methodLink RX6 249 yX2_ticksUntilCommitted :: wB397
def wB395 : List Cond := Cond.code yX6_ifCommitted cX6_ifCommitted 2 (some .int) :: wB396
def wB394 : List Cond := Cond.code yX6_recordedTimestamp cX6_recordedTimestamp 4 (some .int) :: wB395
def wB393 : List Cond := Cond.methodLink RX6 246 yX5_timestampOf :: wB394
def wB392 : List Cond := Cond.methodLink RX6 243 yX4_recordedVersion :: wB393
def wB391 : List Cond := Cond.methodLink RX6 240 yX4_bufferOf :: wB392
def wB390 : List Cond := Cond.code yX6_bufferedValue cX6_bufferedValue 3 (some .int) :: wB391
def wB389 : List Cond := Cond.fieldLink RX6 237 "CommitWaitStore$Transactions" "commitTime" "[I" :: wB390
def wB388 : List Cond := Cond.code yX6_commitTime cX6_commitTime 2 (some .int) :: wB389
def wB387 : List Cond := Cond.fieldLink RX6 234 "CommitWaitStore$Transactions" "requestTime" "[I" :: wB388
def wB386 : List Cond := Cond.code yX6_requestTime cX6_requestTime 2 (some .int) :: wB387
def wB385 : List Cond := Cond.fieldLink RX6 231 "CommitWaitStore$Transactions" "timestamp" "[I" :: wB386
def wB384 : List Cond := Cond.code yX6_timestamp cX6_timestamp 2 (some .int) :: wB385
def wB383 : List Cond := Cond.fieldLink RX6 228 "CommitWaitStore$Transactions" "status" "[I" :: wB384
def wB382 : List Cond := Cond.code yX6_state cX6_state 2 (some .int) :: wB383
def wB381 : List Cond := Cond.code yX6_transactions cX6_transactions 1 (some .int) :: wB382
def wB380 : List Cond := Cond.code yX6_isSound cX6_isSound 2 (some .boolean) :: wB381
def wB379 : List Cond := Cond.methodLink RX6 219 yX1_isSoundAt :: wB380
def wB378 : List Cond := Cond.code yX6_latest cX6_latest 2 (some .int) :: wB379
def wB377 : List Cond := Cond.methodLink RX6 216 yX1_latestAt :: wB378
def wB376 : List Cond := Cond.code yX6_earliest cX6_earliest 2 (some .int) :: wB377
def wB375 : List Cond := Cond.methodLink RX6 213 yX1_earliestAt :: wB376
def wB374 : List Cond := Cond.methodLink RX6 210 yX1_offsetAt :: wB375
def wB373 : List Cond := Cond.code yX6_reading cX6_reading 2 (some .int) :: wB374
def wB372 : List Cond := Cond.code yX6_trueTime cX6_trueTime 1 (some .int) :: wB373
def wB371 : List Cond := Cond.code yX6_snapshotRead cX6_snapshotRead 3 (some .int) :: wB372
def wB370 : List Cond := Cond.selects RX5 yX5_valueOf yX5_valueOf :: wB371
def wB369 : List Cond := Cond.instanceMethod yX5_valueOf :: wB370
def wB368 : List Cond := Cond.methodLink RX6 144 yX5_valueOf :: wB369
def wB367 : List Cond := Cond.selects RX2 yX2_safeTimeNow yX2_safeTimeNow :: wB368
def wB366 : List Cond := Cond.instanceMethod yX2_safeTimeNow :: wB367
def wB365 : List Cond := Cond.methodLink RX6 126 yX2_safeTimeNow :: wB366
def wB364 : List Cond := Cond.selects RX6 yX6_requireNotNegative yX6_requireNotNegative :: wB365
def wB363 : List Cond := Cond.instanceMethod yX6_requireNotNegative :: wB364
def wB362 : List Cond := Cond.methodLink RX6 123 yX6_requireNotNegative :: wB363
def wB361 : List Cond := Cond.fieldLink RX6 140 "CommitWaitStore$State" "versions" "LCommitWaitStore$Versions;" :: wB362
def wB360 : List Cond := Cond.methodLink RX6 135 Lib.Math.max.name :: wB361
def wB359 : List Cond := Cond.fieldLink RX6 132 "CommitWaitStore$State" "readFloor" "I" :: wB360
def wB358 : List Cond := Cond.code yX6_requireNotNegative cX6_requireNotNegative 2 none :: wB359
def wB357 : List Cond := Cond.code yX6_setUncertainty cX6_setUncertainty 4 (some .int) :: wB358
def wB356 : List Cond := Cond.methodLink RX6 120 yX1_uncertaintyAt :: wB357
def wB355 : List Cond := Cond.selects RX1 yX1_changeUncertainty yX1_changeUncertainty :: wB356
def wB354 : List Cond := Cond.instanceMethod yX1_changeUncertainty :: wB355
def wB353 : List Cond := Cond.methodLink RX6 117 yX1_changeUncertainty :: wB354
def wB352 : List Cond := Cond.code yX6_setDrift cX6_setDrift 3 (some .int) :: wB353
def wB351 : List Cond := Cond.selects RX1 yX1_changeDrift yX1_changeDrift :: wB352
def wB350 : List Cond := Cond.instanceMethod yX1_changeDrift :: wB351
def wB349 : List Cond := Cond.methodLink RX6 112 yX1_changeDrift :: wB350
def wB348 : List Cond := Cond.fieldLink RX6 108 "CommitWaitStore$State" "trueTime" "I" :: wB349
def wB347 : List Cond := Cond.fieldLink RX6 104 "CommitWaitStore$State" "servers" "[LCommitWaitStore$Server;" :: wB348
def wB346 : List Cond := Cond.code yX6_synchronize cX6_synchronize 3 (some .int) :: wB347
def wB345 : List Cond := Cond.selects RX2 yX2_synchronizeClock yX2_synchronizeClock :: wB346
def wB344 : List Cond := Cond.instanceMethod yX2_synchronizeClock :: wB345
def wB343 : List Cond := Cond.methodLink RX6 101 yX2_synchronizeClock :: wB344
def wB342 : List Cond := Cond.code yX6_advance cX6_advance 2 (some .int) :: wB343
def wB341 : List Cond := Cond.selects RX2 yX2_advanceBy yX2_advanceBy :: wB342
def wB340 : List Cond := Cond.instanceMethod yX2_advanceBy :: wB341
def wB339 : List Cond := Cond.methodLink RX6 98 yX2_advanceBy :: wB340
def wB338 : List Cond := Cond.selects RX2 yX2_canAdvance yX2_canAdvance :: wB339
def wB337 : List Cond := Cond.instanceMethod yX2_canAdvance :: wB338
def wB336 : List Cond := Cond.methodLink RX6 92 yX2_canAdvance :: wB337
def wB335 : List Cond := Cond.code yX6_abort cX6_abort 2 (some .int) :: wB336
def wB334 : List Cond := Cond.methodLink RX6 89 yX2_makeAborted :: wB335
def wB333 : List Cond := Cond.code yX6_commit cX6_commit 3 (some .int) :: wB334
def wB332 : List Cond := Cond.selects RX2 yX2_carryOut yX2_carryOut :: wB333
def wB331 : List Cond := Cond.instanceMethod yX2_carryOut :: wB332
def wB330 : List Cond := Cond.methodLink RX6 85 yX2_carryOut :: wB331
def wB329 : List Cond := Cond.selects RX2 yX2_commitOutcome yX2_commitOutcome :: wB330
def wB328 : List Cond := Cond.instanceMethod yX2_commitOutcome :: wB329
def wB327 : List Cond := Cond.methodLink RX6 82 yX2_commitOutcome :: wB328
def wB326 : List Cond := Cond.code yX6_write cX6_write 4 (some .int) :: wB327
def wB325 : List Cond := Cond.selects RX2 yX2_writeKey yX2_writeKey :: wB326
def wB324 : List Cond := Cond.instanceMethod yX2_writeKey :: wB325
def wB323 : List Cond := Cond.methodLink RX6 78 yX2_writeKey :: wB324
def wB322 : List Cond := Cond.selects RX6 yX6_requireRange yX6_requireRange :: wB323
def wB321 : List Cond := Cond.instanceMethod yX6_requireRange :: wB322
def wB320 : List Cond := Cond.methodLink RX6 74 yX6_requireRange :: wB321
def wB319 : List Cond := Cond.initialized "java/lang/IllegalArgumentException" :: wB320
def wB318 : List Cond := Cond.classLink RX6 291 "java/lang/IllegalArgumentException" :: wB319
def wB317 : List Cond := Cond.code yX6_requireRange cX6_requireRange 4 none :: wB318
def wB316 : List Cond := Cond.code yX6_read cX6_read 3 (some .int) :: wB317
def wB315 : List Cond := Cond.selects RX2 yX2_readKey yX2_readKey :: wB316
def wB314 : List Cond := Cond.instanceMethod yX2_readKey :: wB315
def wB313 : List Cond := Cond.methodLink RX6 70 yX2_readKey :: wB314
def wB312 : List Cond := Cond.selects RX6 yX6_requireOpen yX6_requireOpen :: wB313
def wB311 : List Cond := Cond.instanceMethod yX6_requireOpen :: wB312
def wB310 : List Cond := Cond.methodLink RX6 67 yX6_requireOpen :: wB311
def wB309 : List Cond := Cond.selects RX6 yX6_requireKey yX6_requireKey :: wB310
def wB308 : List Cond := Cond.instanceMethod yX6_requireKey :: wB309
def wB307 : List Cond := Cond.methodLink RX6 64 yX6_requireKey :: wB308
def wB306 : List Cond := Cond.selects RX6 yX6_requireTransaction yX6_requireTransaction :: wB307
def wB305 : List Cond := Cond.instanceMethod yX6_requireTransaction :: wB306
def wB304 : List Cond := Cond.methodLink RX6 61 yX6_requireTransaction :: wB305
def wB303 : List Cond := Cond.selects RX4 yX4_isOpen yX4_isOpen :: wB304
def wB302 : List Cond := Cond.instanceMethod yX4_isOpen :: wB303
def wB301 : List Cond := Cond.methodLink RX6 189 yX4_isOpen :: wB302
def wB300 : List Cond := Cond.code yX6_requireOpen cX6_requireOpen 2 none :: wB301
def wB299 : List Cond := Cond.code yX6_requireKey cX6_requireKey 2 none :: wB300
def wB298 : List Cond := Cond.fieldLink RX6 225 "CommitWaitStore$Transactions" "begun" "I" :: wB299
def wB297 : List Cond := Cond.fieldLink RX6 185 "CommitWaitStore$State" "transactions" "LCommitWaitStore$Transactions;" :: wB298
def wB296 : List Cond := Cond.code yX6_requireTransaction cX6_requireTransaction 2 none :: wB297
def wB295 : List Cond := Cond.code yX6_begin cX6_begin 2 (some .int) :: wB296
def wB294 : List Cond := Cond.selects RX2 yX2_beginAt yX2_beginAt :: wB295
def wB293 : List Cond := Cond.instanceMethod yX2_beginAt :: wB294
def wB292 : List Cond := Cond.methodLink RX6 57 yX2_beginAt :: wB293
def wB291 : List Cond := Cond.selects RX0 yX0_push yX0_push :: wB292
def wB290 : List Cond := Cond.instanceMethod yX0_push :: wB291
def wB289 : List Cond := Cond.methodLink RX6 53 yX0_push :: wB290
def wB288 : List Cond := Cond.selects RX2 yX2_canBegin yX2_canBegin :: wB289
def wB287 : List Cond := Cond.instanceMethod yX2_canBegin :: wB288
def wB286 : List Cond := Cond.methodLink RX6 42 yX2_canBegin :: wB287
def wB285 : List Cond := Cond.initialized RX6 :: wB286
def wB284 : List Cond := Cond.selects RX6 yX6_requireServer yX6_requireServer :: wB285
def wB283 : List Cond := Cond.instanceMethod yX6_requireServer :: wB284
def wB282 : List Cond := Cond.methodLink RX6 38 yX6_requireServer :: wB283
def wB281 : List Cond := Cond.initialized "java/lang/IllegalStateException" :: wB282
def wB280 : List Cond := Cond.classLink RX6 46 "java/lang/IllegalStateException" :: wB281
def wB279 : List Cond := Cond.initialized "java/lang/IndexOutOfBoundsException" :: wB280
def wB278 : List Cond := Cond.classLink RX6 254 "java/lang/IndexOutOfBoundsException" :: wB279
def wB277 : List Cond := Cond.code yX6_requireServer cX6_requireServer 2 none :: wB278
def wB276 : List Cond := Cond.code yX6_init cX6_init 2 none :: wB277
def wB275 : List Cond := Cond.instanceMethod yX3_init :: wB276
def wB274 : List Cond := Cond.instanceMethod yX0_init :: wB275
def wB273 : List Cond := Cond.methodLink RX6 18 yX0_init :: wB274
def wB272 : List Cond := Cond.methodLink RX6 9 yX2_init :: wB273
def wB271 : List Cond := Cond.fieldLink RX6 34 "CommitWaitStore" "text" "LCommitWaitStore$Text;" :: wB272
def wB270 : List Cond := Cond.initialized RX3 :: wB271
def wB269 : List Cond := Cond.instantiable RX3 5 :: wB270
def wB268 : List Cond := Cond.classLink RX6 31 RX3 :: wB269
def wB267 : List Cond := Cond.fieldLink RX6 27 "CommitWaitStore" "slotHoldsState" "[Z" :: wB268
def wB266 : List Cond := Cond.arrayClass .boolean :: wB267
def wB265 : List Cond := Cond.fieldLink RX6 23 "CommitWaitStore" "slots" "[LCommitWaitStore$State;" :: wB266
def wB264 : List Cond := Cond.fieldLink RX6 19 "CommitWaitStore" "saved" "LCommitWaitStore$SavedStates;" :: wB265
def wB263 : List Cond := Cond.initialized RX0 :: wB264
def wB262 : List Cond := Cond.instantiable RX0 3 :: wB263
def wB261 : List Cond := Cond.classLink RX6 16 RX0 :: wB262
def wB260 : List Cond := Cond.fieldLink RX6 10 "CommitWaitStore" "state" "LCommitWaitStore$State;" :: wB261
def wB259 : List Cond := Cond.classLink RX6 7 RX2 :: wB260
def wB258 : List Cond := Cond.methodLink RX6 1 objectInit :: wB259
def wB257 : List Cond := Cond.methodLink RX5 35 yX5_valueOfVersion :: wB258
def wB256 : List Cond := Cond.methodLink RX5 31 yX5_timestampOf :: wB257
def wB255 : List Cond := Cond.methodLink RX5 27 yX5_newest :: wB256
def wB254 : List Cond := Cond.code yX5_valueOf cX5_valueOf 4 (some .int) :: wB255
def wB253 : List Cond := Cond.selects RX4 yX4_areInverted yX4_areInverted :: wB254
def wB252 : List Cond := Cond.instanceMethod yX4_areInverted :: wB253
def wB251 : List Cond := Cond.methodLink RX4 72 yX4_areInverted :: wB252
def wB250 : List Cond := Cond.code yX4_countInversions cX4_countInversions 4 (some .int) :: wB251
def wB249 : List Cond := Cond.code yX4_areInverted cX4_areInverted 3 (some .boolean) :: wB250
def wB248 : List Cond := Cond.code yX4_sumOfWaits cX4_sumOfWaits 3 (some .int) :: wB249
def wB247 : List Cond := Cond.code yX4_countWithStatus cX4_countWithStatus 4 (some .int) :: wB248
def wB246 : List Cond := Cond.methodLink RX4 69 yX4_bufferOf :: wB247
def wB245 : List Cond := Cond.code yX4_replay cX4_replay 6 (some .int) :: wB246
def wB244 : List Cond := Cond.code yX4_findWaitingWriter cX4_findWaitingWriter 3 (some .int) :: wB245
def wB243 : List Cond := Cond.code yX4_isOpen cX4_isOpen 2 (some .boolean) :: wB244
def wB242 : List Cond := Cond.fieldLink RX3 15 "CommitWaitStore$Text" "characters" "[C" :: wB243
def wB241 : List Cond := Cond.arrayClass .char :: wB242
def wB240 : List Cond := Cond.fieldLink RX3 9 "CommitWaitStore$Text" "arguments" "[I" :: wB241
def wB239 : List Cond := Cond.methodLink RX3 3 objectInit :: wB240
def wB238 : List Cond := Cond.code yX3_init cX3_init 1 none :: wB239
def wB237 : List Cond := Cond.code yX2_ticksUntilSafeAt cX2_ticksUntilSafeAt 5 (some .int) :: wB238
def wB236 : List Cond := Cond.selects RX1 yX1_ticksUntilLatestPasses yX1_ticksUntilLatestPasses :: wB237
def wB235 : List Cond := Cond.instanceMethod yX1_ticksUntilLatestPasses :: wB236
def wB234 : List Cond := Cond.methodLink RX2 166 yX1_ticksUntilLatestPasses :: wB235
def wB233 : List Cond := Cond.code yX2_safeTimeNow cX2_safeTimeNow 3 (some .int) :: wB234
def wB232 : List Cond := Cond.methodLink RX2 163 Lib.Math.min.name :: wB233
def wB231 : List Cond := Cond.selects RX1 yX1_setOffset yX1_setOffset :: wB232
def wB230 : List Cond := Cond.instanceMethod yX1_setOffset :: wB231
def wB229 : List Cond := Cond.methodLink RX2 157 yX1_setOffset :: wB230
def wB228 : List Cond := Cond.methodLink RX2 154 yX1_offsetAt :: wB229
def wB227 : List Cond := Cond.code yX2_synchronizeClock cX2_synchronizeClock 4 (some .int) :: wB228
def wB226 : List Cond := Cond.code yX2_advanceBy cX2_advanceBy 5 (some .int) :: wB227
def wB225 : List Cond := Cond.selects RX2 yX2_makeCommitted yX2_makeCommitted :: wB226
def wB224 : List Cond := Cond.instanceMethod yX2_makeCommitted :: wB225
def wB223 : List Cond := Cond.methodLink RX2 148 yX2_makeCommitted :: wB224
def wB222 : List Cond := Cond.selects RX2 yX2_ticksUntilCommitted yX2_ticksUntilCommitted :: wB223
def wB221 : List Cond := Cond.instanceMethod yX2_ticksUntilCommitted :: wB222
def wB220 : List Cond := Cond.methodLink RX2 145 yX2_ticksUntilCommitted :: wB221
def wB219 : List Cond := Cond.code yX2_ticksUntilCommitted cX2_ticksUntilCommitted 6 (some .int) :: wB220
def wB218 : List Cond := Cond.selects RX1 yX1_earliestAt yX1_earliestAt :: wB219
def wB217 : List Cond := Cond.instanceMethod yX1_earliestAt :: wB218
def wB216 : List Cond := Cond.methodLink RX2 151 yX1_earliestAt :: wB217
def wB215 : List Cond := Cond.constant RX2 144 (1000000) :: wB216
def wB214 : List Cond := Cond.code yX2_canAdvance cX2_canAdvance 2 (some .boolean) :: wB215
def wB213 : List Cond := Cond.code yX2_makeCommitted cX2_makeCommitted 4 none :: wB214
def wB212 : List Cond := Cond.selects RX5 yX5_add yX5_add :: wB213
def wB211 : List Cond := Cond.instanceMethod yX5_add :: wB212
def wB210 : List Cond := Cond.methodLink RX2 142 yX5_add :: wB211
def wB209 : List Cond := Cond.fieldLink RX2 139 "CommitWaitStore$Transactions" "commitTime" "[I" :: wB210
def wB208 : List Cond := Cond.code yX5_add cX5_add 5 none :: wB209
def wB207 : List Cond := Cond.code yX2_carryOut cX2_carryOut 3 none :: wB208
def wB206 : List Cond := Cond.selects RX2 yX2_makeWaiting yX2_makeWaiting :: wB207
def wB205 : List Cond := Cond.instanceMethod yX2_makeWaiting :: wB206
def wB204 : List Cond := Cond.methodLink RX2 120 yX2_makeWaiting :: wB205
def wB203 : List Cond := Cond.selects RX2 yX2_makeAborted yX2_makeAborted :: wB204
def wB202 : List Cond := Cond.instanceMethod yX2_makeAborted :: wB203
def wB201 : List Cond := Cond.methodLink RX2 117 yX2_makeAborted :: wB202
def wB200 : List Cond := Cond.code yX2_makeWaiting cX2_makeWaiting 4 none :: wB201
def wB199 : List Cond := Cond.selects RX1 yX1_isSoundAt yX1_isSoundAt :: wB200
def wB198 : List Cond := Cond.instanceMethod yX1_isSoundAt :: wB199
def wB197 : List Cond := Cond.methodLink RX2 136 yX1_isSoundAt :: wB198
def wB196 : List Cond := Cond.fieldLink RX2 130 "CommitWaitStore$Transactions" "requestTime" "[I" :: wB197
def wB195 : List Cond := Cond.fieldLink RX2 127 "CommitWaitStore$Transactions" "timestamp" "[I" :: wB196
def wB194 : List Cond := Cond.fieldLink RX2 124 "CommitWaitStore$Transactions" "status" "[I" :: wB195
def wB193 : List Cond := Cond.code yX2_makeAborted cX2_makeAborted 2 (some .int) :: wB194
def wB192 : List Cond := Cond.code yX2_commitOutcome cX2_commitOutcome 4 (some .int) :: wB193
def wB191 : List Cond := Cond.selects RX4 yX4_greatestReaderTimestamp yX4_greatestReaderTimestamp :: wB192
def wB190 : List Cond := Cond.instanceMethod yX4_greatestReaderTimestamp :: wB191
def wB189 : List Cond := Cond.methodLink RX2 114 yX4_greatestReaderTimestamp :: wB190
def wB188 : List Cond := Cond.selects RX5 yX5_timestampOf yX5_timestampOf :: wB189
def wB187 : List Cond := Cond.instanceMethod yX5_timestampOf :: wB188
def wB186 : List Cond := Cond.methodLink RX2 106 yX5_timestampOf :: wB187
def wB185 : List Cond := Cond.methodLink RX2 103 yX4_hasTouched :: wB186
def wB184 : List Cond := Cond.selects RX2 yX2_nextTimestampOf yX2_nextTimestampOf :: wB185
def wB183 : List Cond := Cond.instanceMethod yX2_nextTimestampOf :: wB184
def wB182 : List Cond := Cond.methodLink RX2 100 yX2_nextTimestampOf :: wB183
def wB181 : List Cond := Cond.selects RX4 yX4_isLockedOut yX4_isLockedOut :: wB182
def wB180 : List Cond := Cond.instanceMethod yX4_isLockedOut :: wB181
def wB179 : List Cond := Cond.methodLink RX2 93 yX4_isLockedOut :: wB180
def wB178 : List Cond := Cond.selects RX2 yX2_hasConflict yX2_hasConflict :: wB179
def wB177 : List Cond := Cond.instanceMethod yX2_hasConflict :: wB178
def wB176 : List Cond := Cond.methodLink RX2 89 yX2_hasConflict :: wB177
def wB175 : List Cond := Cond.fieldLink RX2 96 "CommitWaitStore$Transactions" "server" "[I" :: wB176
def wB174 : List Cond := Cond.methodLink RX4 63 Lib.Math.max.name :: wB175
def wB173 : List Cond := Cond.code yX4_greatestReaderTimestamp cX4_greatestReaderTimestamp 4 (some .int) :: wB174
def wB172 : List Cond := Cond.code yX5_timestampOf cX5_timestampOf 3 (some .int) :: wB173
def wB171 : List Cond := Cond.code yX2_nextTimestampOf cX2_nextTimestampOf 3 (some .int) :: wB172
def wB170 : List Cond := Cond.methodLink RX2 160 yX1_latestAt :: wB171
def wB169 : List Cond := Cond.code Lib.Math.max.name Lib.Math.max.code 2 (some .int) :: wB170
def wB168 : List Cond := Cond.static Lib.Math.max.name :: wB169
def wB167 : List Cond := Cond.methodLink RX2 109 Lib.Math.max.name :: wB168
def wB166 : List Cond := Cond.fieldLink RX2 133 "CommitWaitStore$Server" "greatestAssigned" "I" :: wB167
def wB165 : List Cond := Cond.selects RX4 yX4_locks yX4_locks :: wB166
def wB164 : List Cond := Cond.instanceMethod yX4_locks :: wB165
def wB163 : List Cond := Cond.methodLink RX4 60 yX4_locks :: wB164
def wB162 : List Cond := Cond.code yX4_isLockedOut cX4_isLockedOut 3 (some .boolean) :: wB163
def wB161 : List Cond := Cond.selects RX4 yX4_hasTouched yX4_hasTouched :: wB162
def wB160 : List Cond := Cond.instanceMethod yX4_hasTouched :: wB161
def wB159 : List Cond := Cond.methodLink RX4 57 yX4_hasTouched :: wB160
def wB158 : List Cond := Cond.code yX4_locks cX4_locks 4 (some .boolean) :: wB159
def wB157 : List Cond := Cond.methodLink RX4 50 yX4_hasRead :: wB158
def wB156 : List Cond := Cond.code yX4_hasTouched cX4_hasTouched 3 (some .boolean) :: wB157
def wB155 : List Cond := Cond.code yX2_hasConflict cX2_hasConflict 3 (some .boolean) :: wB156
def wB154 : List Cond := Cond.selects RX4 yX4_writtenKeys yX4_writtenKeys :: wB155
def wB153 : List Cond := Cond.instanceMethod yX4_writtenKeys :: wB154
def wB152 : List Cond := Cond.methodLink RX2 86 yX4_writtenKeys :: wB153
def wB151 : List Cond := Cond.methodLink RX2 83 yX4_bufferValue :: wB152
def wB150 : List Cond := Cond.code yX2_writeKey cX2_writeKey 4 (some .int) :: wB151
def wB149 : List Cond := Cond.methodLink RX4 54 yX4_hasWritten :: wB150
def wB148 : List Cond := Cond.code yX4_writtenKeys cX4_writtenKeys 4 (some .int) :: wB149
def wB147 : List Cond := Cond.code yX2_readKey cX2_readKey 3 (some .int) :: wB148
def wB146 : List Cond := Cond.selects RX5 yX5_valueOfVersion yX5_valueOfVersion :: wB147
def wB145 : List Cond := Cond.instanceMethod yX5_valueOfVersion :: wB146
def wB144 : List Cond := Cond.methodLink RX2 80 yX5_valueOfVersion :: wB145
def wB143 : List Cond := Cond.selects RX4 yX4_recordedVersion yX4_recordedVersion :: wB144
def wB142 : List Cond := Cond.instanceMethod yX4_recordedVersion :: wB143
def wB141 : List Cond := Cond.methodLink RX2 77 yX4_recordedVersion :: wB142
def wB140 : List Cond := Cond.methodLink RX2 73 yX4_recordVersion :: wB141
def wB139 : List Cond := Cond.selects RX5 yX5_newest yX5_newest :: wB140
def wB138 : List Cond := Cond.instanceMethod yX5_newest :: wB139
def wB137 : List Cond := Cond.methodLink RX2 70 yX5_newest :: wB138
def wB136 : List Cond := Cond.selects RX4 yX4_hasRead yX4_hasRead :: wB137
def wB135 : List Cond := Cond.instanceMethod yX4_hasRead :: wB136
def wB134 : List Cond := Cond.methodLink RX2 67 yX4_hasRead :: wB135
def wB133 : List Cond := Cond.selects RX4 yX4_bufferOf yX4_bufferOf :: wB134
def wB132 : List Cond := Cond.instanceMethod yX4_bufferOf :: wB133
def wB131 : List Cond := Cond.methodLink RX2 63 yX4_bufferOf :: wB132
def wB130 : List Cond := Cond.selects RX4 yX4_hasWritten yX4_hasWritten :: wB131
def wB129 : List Cond := Cond.instanceMethod yX4_hasWritten :: wB130
def wB128 : List Cond := Cond.methodLink RX2 59 yX4_hasWritten :: wB129
def wB127 : List Cond := Cond.code yX5_valueOfVersion cX5_valueOfVersion 3 (some .int) :: wB128
def wB126 : List Cond := Cond.code yX4_recordedVersion cX4_recordedVersion 3 (some .int) :: wB127
def wB125 : List Cond := Cond.code yX5_newest cX5_newest 2 (some .int) :: wB126
def wB124 : List Cond := Cond.code yX4_hasRead cX4_hasRead 3 (some .boolean) :: wB125
def wB123 : List Cond := Cond.code yX4_bufferOf cX4_bufferOf 3 (some .int) :: wB124
def wB122 : List Cond := Cond.code yX4_hasWritten cX4_hasWritten 3 (some .boolean) :: wB123
def wB121 : List Cond := Cond.selects RX4 yX4_add yX4_add :: wB122
def wB120 : List Cond := Cond.instanceMethod yX4_add :: wB121
def wB119 : List Cond := Cond.methodLink RX2 55 yX4_add :: wB120
def wB118 : List Cond := Cond.code yX2_beginAt cX2_beginAt 2 (some .int) :: wB119
def wB117 : List Cond := Cond.selects RX4 yX4_recordVersion yX4_recordVersion :: wB118
def wB116 : List Cond := Cond.instanceMethod yX4_recordVersion :: wB117
def wB115 : List Cond := Cond.methodLink RX4 47 yX4_recordVersion :: wB116
def wB114 : List Cond := Cond.selects RX4 yX4_bufferValue yX4_bufferValue :: wB115
def wB113 : List Cond := Cond.instanceMethod yX4_bufferValue :: wB114
def wB112 : List Cond := Cond.methodLink RX4 43 yX4_bufferValue :: wB113
def wB111 : List Cond := Cond.code yX4_add cX4_add 4 (some .int) :: wB112
def wB110 : List Cond := Cond.code yX4_recordVersion cX4_recordVersion 4 none :: wB111
def wB109 : List Cond := Cond.code yX4_bufferValue cX4_bufferValue 4 none :: wB110
def wB108 : List Cond := Cond.fieldLink RX2 52 "CommitWaitStore$Transactions" "begun" "I" :: wB109
def wB107 : List Cond := Cond.code yX2_canBegin cX2_canBegin 1 (some .boolean) :: wB108
def wB106 : List Cond := Cond.selects RX1 yX1_latestAt yX1_latestAt :: wB107
def wB105 : List Cond := Cond.instanceMethod yX1_latestAt :: wB106
def wB104 : List Cond := Cond.methodLink RX1 44 yX1_latestAt :: wB105
def wB103 : List Cond := Cond.constantLong RX1 47 (3) :: wB104
def wB102 : List Cond := Cond.code yX1_ticksUntilLatestPasses cX1_ticksUntilLatestPasses 8 (some .int) :: wB103
def wB101 : List Cond := Cond.code yX1_isSoundAt cX1_isSoundAt 4 (some .boolean) :: wB102
def wB100 : List Cond := Cond.code yX1_latestAt cX1_latestAt 2 (some .int) :: wB101
def wB99 : List Cond := Cond.selects RX1 yX1_uncertaintyAt yX1_uncertaintyAt :: wB100
def wB98 : List Cond := Cond.instanceMethod yX1_uncertaintyAt :: wB99
def wB97 : List Cond := Cond.methodLink RX1 41 yX1_uncertaintyAt :: wB98
def wB96 : List Cond := Cond.code yX1_earliestAt cX1_earliestAt 2 (some .int) :: wB97
def wB95 : List Cond := Cond.code yX1_uncertaintyAt cX1_uncertaintyAt 2 (some .int) :: wB96
def wB94 : List Cond := Cond.code yX1_changeUncertainty cX1_changeUncertainty 3 none :: wB95
def wB93 : List Cond := Cond.selects RX1 yX1_offsetAt yX1_offsetAt :: wB94
def wB92 : List Cond := Cond.instanceMethod yX1_offsetAt :: wB93
def wB91 : List Cond := Cond.methodLink RX1 31 yX1_offsetAt :: wB92
def wB90 : List Cond := Cond.code yX1_changeDrift cX1_changeDrift 4 (some .int) :: wB91
def wB89 : List Cond := Cond.initialized RJ9 :: wB90
def wB88 : List Cond := Cond.static yJ9_floorDiv_7cf53 :: wB89
def wB87 : List Cond := Cond.methodLink RX1 35 yJ9_floorDiv_7cf53 :: wB88
def wB86 : List Cond := Cond.code yX1_offsetAt cX1_offsetAt 2 (some .int) :: wB87
def wB85 : List Cond := Cond.code yJ9_floorDiv_7cf53 cJ9_floorDiv_7cf53 3 (some .int) :: wB86
def wB84 : List Cond := Cond.code yX1_setOffset cX1_setOffset 3 none :: wB85
def wB83 : List Cond := Cond.code yX0_push cX0_push 2 none :: wB84
def wB82 : List Cond := Cond.selects RX2 yX2_copyFrom yX2_copyFrom :: wB83
def wB81 : List Cond := Cond.instanceMethod yX2_copyFrom :: wB82
def wB80 : List Cond := Cond.methodLink RX0 20 yX2_copyFrom :: wB81
def wB79 : List Cond := Cond.code Lib.Math.min.name Lib.Math.min.code 2 (some .int) :: wB80
def wB78 : List Cond := Cond.initialized "java/lang/Math" :: wB79
def wB77 : List Cond := Cond.static Lib.Math.min.name :: wB78
def wB76 : List Cond := Cond.methodLink RX0 27 Lib.Math.min.name :: wB77
def wB75 : List Cond := Cond.fieldLink RX0 24 "CommitWaitStore$SavedStates" "count" "I" :: wB76
def wB74 : List Cond := Cond.fieldLink RX0 16 "CommitWaitStore$SavedStates" "next" "I" :: wB75
def wB73 : List Cond := Cond.code yX2_copyFrom cX2_copyFrom 3 none :: wB74
def wB72 : List Cond := Cond.selects RX4 yX4_copyFrom yX4_copyFrom :: wB73
def wB71 : List Cond := Cond.instanceMethod yX4_copyFrom :: wB72
def wB70 : List Cond := Cond.methodLink RX2 49 yX4_copyFrom :: wB71
def wB69 : List Cond := Cond.selects RX5 yX5_copyFrom yX5_copyFrom :: wB70
def wB68 : List Cond := Cond.instanceMethod yX5_copyFrom :: wB69
def wB67 : List Cond := Cond.methodLink RX2 46 yX5_copyFrom :: wB68
def wB66 : List Cond := Cond.selects RX1 yX1_copyFrom yX1_copyFrom :: wB67
def wB65 : List Cond := Cond.instanceMethod yX1_copyFrom :: wB66
def wB64 : List Cond := Cond.methodLink RX2 42 yX1_copyFrom :: wB65
def wB63 : List Cond := Cond.fieldLink RX2 39 "CommitWaitStore$State" "unsoundUses" "I" :: wB64
def wB62 : List Cond := Cond.fieldLink RX2 36 "CommitWaitStore$State" "readFloor" "I" :: wB63
def wB61 : List Cond := Cond.fieldLink RX2 32 "CommitWaitStore$State" "trueTime" "I" :: wB62
def wB60 : List Cond := Cond.methodLink RX4 37 arraycopyName :: wB61
def wB59 : List Cond := Cond.fieldLink RX4 33 "CommitWaitStore$Transactions" "begun" "I" :: wB60
def wB58 : List Cond := Cond.code yX4_copyFrom cX4_copyFrom 2 none :: wB59
def wB57 : List Cond := Cond.initialized "java/lang/System" :: wB58
def wB56 : List Cond := Cond.static arraycopyName :: wB57
def wB55 : List Cond := Cond.native arraycopyName :: wB56
def wB54 : List Cond := Cond.methodLink RX5 21 arraycopyName :: wB55
def wB53 : List Cond := Cond.code yX5_copyFrom cX5_copyFrom 3 none :: wB54
def wB52 : List Cond := Cond.fieldLink RX1 28 "CommitWaitStore$Server" "greatestAssigned" "I" :: wB53
def wB51 : List Cond := Cond.fieldLink RX1 25 "CommitWaitStore$Server" "synchronizationTime" "I" :: wB52
def wB50 : List Cond := Cond.fieldLink RX1 22 "CommitWaitStore$Server" "drift" "I" :: wB51
def wB49 : List Cond := Cond.fieldLink RX1 19 "CommitWaitStore$Server" "offsetTime" "I" :: wB50
def wB48 : List Cond := Cond.fieldLink RX1 16 "CommitWaitStore$Server" "offsetBase" "I" :: wB49
def wB47 : List Cond := Cond.code yX1_copyFrom cX1_copyFrom 2 none :: wB48
def wB46 : List Cond := Cond.code yX0_init cX0_init 2 none :: wB47
def wB45 : List Cond := Cond.instanceMethod yX2_init :: wB46
def wB44 : List Cond := Cond.methodLink RX0 15 yX2_init :: wB45
def wB43 : List Cond := Cond.initialized RX2 :: wB44
def wB42 : List Cond := Cond.instantiable RX2 6 :: wB43
def wB41 : List Cond := Cond.fieldLink RX0 11 "CommitWaitStore$SavedStates" "ring" "[LCommitWaitStore$State;" :: wB42
def wB40 : List Cond := Cond.classLink RX0 9 RX2 :: wB41
def wB39 : List Cond := Cond.methodLink RX0 1 objectInit :: wB40
def wB38 : List Cond := Cond.code yX2_init cX2_init 2 none :: wB39
def wB37 : List Cond := Cond.instanceMethod yX1_init :: wB38
def wB36 : List Cond := Cond.instanceMethod yX4_init :: wB37
def wB35 : List Cond := Cond.instanceMethod yX5_init :: wB36
def wB34 : List Cond := Cond.methodLink RX2 19 yX5_init :: wB35
def wB33 : List Cond := Cond.initialized RX1 :: wB34
def wB32 : List Cond := Cond.instantiable RX1 7 :: wB33
def wB31 : List Cond := Cond.fieldLink RX2 27 "CommitWaitStore$State" "transactions" "LCommitWaitStore$Transactions;" :: wB32
def wB30 : List Cond := Cond.initialized RX4 :: wB31
def wB29 : List Cond := Cond.instantiable RX4 8 :: wB30
def wB28 : List Cond := Cond.classLink RX2 24 RX4 :: wB29
def wB27 : List Cond := Cond.fieldLink RX2 20 "CommitWaitStore$State" "versions" "LCommitWaitStore$Versions;" :: wB28
def wB26 : List Cond := Cond.initialized RX5 :: wB27
def wB25 : List Cond := Cond.instantiable RX5 3 :: wB26
def wB24 : List Cond := Cond.classLink RX2 17 RX5 :: wB25
def wB23 : List Cond := Cond.fieldLink RX2 11 "CommitWaitStore$State" "servers" "[LCommitWaitStore$Server;" :: wB24
def wB22 : List Cond := Cond.classLink RX2 9 RX1 :: wB23
def wB21 : List Cond := Cond.methodLink RX2 3 objectInit :: wB22
def wB20 : List Cond := Cond.fieldLink RX1 13 "CommitWaitStore$Server" "growth" "I" :: wB21
def wB19 : List Cond := Cond.fieldLink RX1 7 "CommitWaitStore$Server" "baseUncertainty" "I" :: wB20
def wB18 : List Cond := Cond.methodLink RX1 1 objectInit :: wB19
def wB17 : List Cond := Cond.code yX1_init cX1_init 1 none :: wB18
def wB16 : List Cond := Cond.fieldLink RX4 30 "CommitWaitStore$Transactions" "recorded" "[I" :: wB17
def wB15 : List Cond := Cond.fieldLink RX4 27 "CommitWaitStore$Transactions" "buffered" "[I" :: wB16
def wB14 : List Cond := Cond.fieldLink RX4 24 "CommitWaitStore$Transactions" "commitTime" "[I" :: wB15
def wB13 : List Cond := Cond.fieldLink RX4 21 "CommitWaitStore$Transactions" "requestTime" "[I" :: wB14
def wB12 : List Cond := Cond.fieldLink RX4 18 "CommitWaitStore$Transactions" "timestamp" "[I" :: wB13
def wB11 : List Cond := Cond.fieldLink RX4 15 "CommitWaitStore$Transactions" "status" "[I" :: wB12
def wB10 : List Cond := Cond.fieldLink RX4 9 "CommitWaitStore$Transactions" "server" "[I" :: wB11
def wB9 : List Cond := Cond.methodLink RX4 3 objectInit :: wB10
def wB8 : List Cond := Cond.code yX4_init cX4_init 1 none :: wB9
def wB7 : List Cond := Cond.fieldLink RX5 18 "CommitWaitStore$Versions" "values" "[I" :: wB8
def wB6 : List Cond := Cond.fieldLink RX5 15 "CommitWaitStore$Versions" "timestamps" "[I" :: wB7
def wB5 : List Cond := Cond.fieldLink RX5 9 "CommitWaitStore$Versions" "count" "[I" :: wB6
def wB4 : List Cond := Cond.arrayClass .int :: wB5
def wB3 : List Cond := Cond.code objectInit ⟨#[0xb1]⟩ 1 none :: wB4
def wB2 : List Cond := Cond.instanceMethod objectInit :: wB3
def wB1 : List Cond := Cond.methodLink RX5 3 objectInit :: wB2
def wB0 : List Cond := Cond.code yX5_init cX5_init 2 none :: wB1
def wAt : List Cond := (vx_atS RX6 258 "java/lang/IndexOutOfBoundsException" ["java/lang/RuntimeException", "java/lang/Exception"]).filter goodWord ++ ((vx_atS RX6 295 "java/lang/IllegalArgumentException" ["java/lang/RuntimeException", "java/lang/Exception"]).filter goodWord ++ ((vx_atS RX6 50 "java/lang/IllegalStateException" ["java/lang/RuntimeException", "java/lang/Exception"]).filter goodWord))
def wA0 : List Cond := wsX00 ++ (wsX10 ++ (wsX20 ++ (wsX30 ++ (wsX40 ++ (wsX50 ++ (wsX60 ++ (wAt ++ wB0)))))))
theorem iA0 : ∀ w ∈ wsX00, w ∈ wA0 := fun _ h => List.mem_append_left _ h
theorem iA1 : ∀ w ∈ wsX10, w ∈ wA0 := fun _ h => List.mem_append_right _ (List.mem_append_left _ h)
theorem iA2 : ∀ w ∈ wsX20, w ∈ wA0 := fun _ h => List.mem_append_right _ (List.mem_append_right _ (List.mem_append_left _ h))
theorem iA3 : ∀ w ∈ wsX30, w ∈ wA0 := fun _ h => List.mem_append_right _ (List.mem_append_right _ (List.mem_append_right _ (List.mem_append_left _ h)))
theorem iA4 : ∀ w ∈ wsX40, w ∈ wA0 := fun _ h => List.mem_append_right _ (List.mem_append_right _ (List.mem_append_right _ (List.mem_append_right _ (List.mem_append_left _ h))))
theorem iA5 : ∀ w ∈ wsX50, w ∈ wA0 := fun _ h => List.mem_append_right _ (List.mem_append_right _ (List.mem_append_right _ (List.mem_append_right _ (List.mem_append_right _ (List.mem_append_left _ h)))))
theorem iA6 : ∀ w ∈ wsX60, w ∈ wA0 := fun _ h => List.mem_append_right _ (List.mem_append_right _ (List.mem_append_right _ (List.mem_append_right _ (List.mem_append_right _ (List.mem_append_right _ (List.mem_append_left _ h))))))
theorem iAt : ∀ w ∈ wAt, w ∈ wA0 := fun _ h => List.mem_append_right _ (List.mem_append_right _ (List.mem_append_right _ (List.mem_append_right _ (List.mem_append_right _ (List.mem_append_right _ (List.mem_append_right _ (List.mem_append_left _ h)))))))
theorem iAtI : ∀ w ∈ (vx_atS RX6 258 "java/lang/IndexOutOfBoundsException" ["java/lang/RuntimeException", "java/lang/Exception"]).filter goodWord, w ∈ wA0 := fun w h => iAt w (List.mem_append_left _ h)
theorem iAtA : ∀ w ∈ (vx_atS RX6 295 "java/lang/IllegalArgumentException" ["java/lang/RuntimeException", "java/lang/Exception"]).filter goodWord, w ∈ wA0 := fun w h => iAt w (List.mem_append_right _ (List.mem_append_left _ h))
theorem iAtS : ∀ w ∈ (vx_atS RX6 50 "java/lang/IllegalStateException" ["java/lang/RuntimeException", "java/lang/Exception"]).filter goodWord, w ∈ wA0 := fun w h => iAt w (List.mem_append_right _ (List.mem_append_right _ (h)))
theorem sB0 : ∀ w ∈ wB0, w ∈ wA0 := fun _ h => List.mem_append_right _ (List.mem_append_right _ (List.mem_append_right _ (List.mem_append_right _ (List.mem_append_right _ (List.mem_append_right _ (List.mem_append_right _ (List.mem_append_right _ (h))))))))
theorem mB0 : Cond.code yX5_init cX5_init 2 none ∈ wA0 := sB0 _ List.mem_cons_self
theorem sB1 : ∀ w ∈ wB1, w ∈ wA0 := fun w h => sB0 w (List.mem_cons_of_mem _ h)
theorem mB1 : Cond.methodLink RX5 3 objectInit ∈ wA0 := sB1 _ List.mem_cons_self
theorem sB2 : ∀ w ∈ wB2, w ∈ wA0 := fun w h => sB1 w (List.mem_cons_of_mem _ h)
theorem mB2 : Cond.instanceMethod objectInit ∈ wA0 := sB2 _ List.mem_cons_self
theorem sB3 : ∀ w ∈ wB3, w ∈ wA0 := fun w h => sB2 w (List.mem_cons_of_mem _ h)
theorem mB3 : Cond.code objectInit ⟨#[0xb1]⟩ 1 none ∈ wA0 := sB3 _ List.mem_cons_self
theorem sB4 : ∀ w ∈ wB4, w ∈ wA0 := fun w h => sB3 w (List.mem_cons_of_mem _ h)
theorem mB4 : Cond.arrayClass .int ∈ wA0 := sB4 _ List.mem_cons_self
theorem sB5 : ∀ w ∈ wB5, w ∈ wA0 := fun w h => sB4 w (List.mem_cons_of_mem _ h)
theorem mB5 : Cond.fieldLink RX5 9 "CommitWaitStore$Versions" "count" "[I" ∈ wA0 := sB5 _ List.mem_cons_self
theorem sB6 : ∀ w ∈ wB6, w ∈ wA0 := fun w h => sB5 w (List.mem_cons_of_mem _ h)
theorem mB6 : Cond.fieldLink RX5 15 "CommitWaitStore$Versions" "timestamps" "[I" ∈ wA0 := sB6 _ List.mem_cons_self
theorem sB7 : ∀ w ∈ wB7, w ∈ wA0 := fun w h => sB6 w (List.mem_cons_of_mem _ h)
theorem mB7 : Cond.fieldLink RX5 18 "CommitWaitStore$Versions" "values" "[I" ∈ wA0 := sB7 _ List.mem_cons_self
theorem sB8 : ∀ w ∈ wB8, w ∈ wA0 := fun w h => sB7 w (List.mem_cons_of_mem _ h)
theorem mB8 : Cond.code yX4_init cX4_init 1 none ∈ wA0 := sB8 _ List.mem_cons_self
theorem sB9 : ∀ w ∈ wB9, w ∈ wA0 := fun w h => sB8 w (List.mem_cons_of_mem _ h)
theorem mB9 : Cond.methodLink RX4 3 objectInit ∈ wA0 := sB9 _ List.mem_cons_self
theorem sB10 : ∀ w ∈ wB10, w ∈ wA0 := fun w h => sB9 w (List.mem_cons_of_mem _ h)
theorem mB10 : Cond.fieldLink RX4 9 "CommitWaitStore$Transactions" "server" "[I" ∈ wA0 := sB10 _ List.mem_cons_self
theorem sB11 : ∀ w ∈ wB11, w ∈ wA0 := fun w h => sB10 w (List.mem_cons_of_mem _ h)
theorem mB11 : Cond.fieldLink RX4 15 "CommitWaitStore$Transactions" "status" "[I" ∈ wA0 := sB11 _ List.mem_cons_self
theorem sB12 : ∀ w ∈ wB12, w ∈ wA0 := fun w h => sB11 w (List.mem_cons_of_mem _ h)
theorem mB12 : Cond.fieldLink RX4 18 "CommitWaitStore$Transactions" "timestamp" "[I" ∈ wA0 := sB12 _ List.mem_cons_self
theorem sB13 : ∀ w ∈ wB13, w ∈ wA0 := fun w h => sB12 w (List.mem_cons_of_mem _ h)
theorem mB13 : Cond.fieldLink RX4 21 "CommitWaitStore$Transactions" "requestTime" "[I" ∈ wA0 := sB13 _ List.mem_cons_self
theorem sB14 : ∀ w ∈ wB14, w ∈ wA0 := fun w h => sB13 w (List.mem_cons_of_mem _ h)
theorem mB14 : Cond.fieldLink RX4 24 "CommitWaitStore$Transactions" "commitTime" "[I" ∈ wA0 := sB14 _ List.mem_cons_self
theorem sB15 : ∀ w ∈ wB15, w ∈ wA0 := fun w h => sB14 w (List.mem_cons_of_mem _ h)
theorem mB15 : Cond.fieldLink RX4 27 "CommitWaitStore$Transactions" "buffered" "[I" ∈ wA0 := sB15 _ List.mem_cons_self
theorem sB16 : ∀ w ∈ wB16, w ∈ wA0 := fun w h => sB15 w (List.mem_cons_of_mem _ h)
theorem mB16 : Cond.fieldLink RX4 30 "CommitWaitStore$Transactions" "recorded" "[I" ∈ wA0 := sB16 _ List.mem_cons_self
theorem sB17 : ∀ w ∈ wB17, w ∈ wA0 := fun w h => sB16 w (List.mem_cons_of_mem _ h)
theorem mB17 : Cond.code yX1_init cX1_init 1 none ∈ wA0 := sB17 _ List.mem_cons_self
theorem sB18 : ∀ w ∈ wB18, w ∈ wA0 := fun w h => sB17 w (List.mem_cons_of_mem _ h)
theorem mB18 : Cond.methodLink RX1 1 objectInit ∈ wA0 := sB18 _ List.mem_cons_self
theorem sB19 : ∀ w ∈ wB19, w ∈ wA0 := fun w h => sB18 w (List.mem_cons_of_mem _ h)
theorem mB19 : Cond.fieldLink RX1 7 "CommitWaitStore$Server" "baseUncertainty" "I" ∈ wA0 := sB19 _ List.mem_cons_self
theorem sB20 : ∀ w ∈ wB20, w ∈ wA0 := fun w h => sB19 w (List.mem_cons_of_mem _ h)
theorem mB20 : Cond.fieldLink RX1 13 "CommitWaitStore$Server" "growth" "I" ∈ wA0 := sB20 _ List.mem_cons_self
theorem sB21 : ∀ w ∈ wB21, w ∈ wA0 := fun w h => sB20 w (List.mem_cons_of_mem _ h)
theorem mB21 : Cond.methodLink RX2 3 objectInit ∈ wA0 := sB21 _ List.mem_cons_self
theorem sB22 : ∀ w ∈ wB22, w ∈ wA0 := fun w h => sB21 w (List.mem_cons_of_mem _ h)
theorem mB22 : Cond.classLink RX2 9 RX1 ∈ wA0 := sB22 _ List.mem_cons_self
theorem sB23 : ∀ w ∈ wB23, w ∈ wA0 := fun w h => sB22 w (List.mem_cons_of_mem _ h)
theorem mB23 : Cond.fieldLink RX2 11 "CommitWaitStore$State" "servers" "[LCommitWaitStore$Server;" ∈ wA0 := sB23 _ List.mem_cons_self
theorem sB24 : ∀ w ∈ wB24, w ∈ wA0 := fun w h => sB23 w (List.mem_cons_of_mem _ h)
theorem mB24 : Cond.classLink RX2 17 RX5 ∈ wA0 := sB24 _ List.mem_cons_self
theorem sB25 : ∀ w ∈ wB25, w ∈ wA0 := fun w h => sB24 w (List.mem_cons_of_mem _ h)
theorem mB25 : Cond.instantiable RX5 3 ∈ wA0 := sB25 _ List.mem_cons_self
theorem sB26 : ∀ w ∈ wB26, w ∈ wA0 := fun w h => sB25 w (List.mem_cons_of_mem _ h)
theorem mB26 : Cond.initialized RX5 ∈ wA0 := sB26 _ List.mem_cons_self
theorem sB27 : ∀ w ∈ wB27, w ∈ wA0 := fun w h => sB26 w (List.mem_cons_of_mem _ h)
theorem mB27 : Cond.fieldLink RX2 20 "CommitWaitStore$State" "versions" "LCommitWaitStore$Versions;" ∈ wA0 := sB27 _ List.mem_cons_self
theorem sB28 : ∀ w ∈ wB28, w ∈ wA0 := fun w h => sB27 w (List.mem_cons_of_mem _ h)
theorem mB28 : Cond.classLink RX2 24 RX4 ∈ wA0 := sB28 _ List.mem_cons_self
theorem sB29 : ∀ w ∈ wB29, w ∈ wA0 := fun w h => sB28 w (List.mem_cons_of_mem _ h)
theorem mB29 : Cond.instantiable RX4 8 ∈ wA0 := sB29 _ List.mem_cons_self
theorem sB30 : ∀ w ∈ wB30, w ∈ wA0 := fun w h => sB29 w (List.mem_cons_of_mem _ h)
theorem mB30 : Cond.initialized RX4 ∈ wA0 := sB30 _ List.mem_cons_self
theorem sB31 : ∀ w ∈ wB31, w ∈ wA0 := fun w h => sB30 w (List.mem_cons_of_mem _ h)
theorem mB31 : Cond.fieldLink RX2 27 "CommitWaitStore$State" "transactions" "LCommitWaitStore$Transactions;" ∈ wA0 := sB31 _ List.mem_cons_self
theorem sB32 : ∀ w ∈ wB32, w ∈ wA0 := fun w h => sB31 w (List.mem_cons_of_mem _ h)
theorem mB32 : Cond.instantiable RX1 7 ∈ wA0 := sB32 _ List.mem_cons_self
theorem sB33 : ∀ w ∈ wB33, w ∈ wA0 := fun w h => sB32 w (List.mem_cons_of_mem _ h)
theorem mB33 : Cond.initialized RX1 ∈ wA0 := sB33 _ List.mem_cons_self
theorem sB34 : ∀ w ∈ wB34, w ∈ wA0 := fun w h => sB33 w (List.mem_cons_of_mem _ h)
theorem mB34 : Cond.methodLink RX2 19 yX5_init ∈ wA0 := sB34 _ List.mem_cons_self
theorem sB35 : ∀ w ∈ wB35, w ∈ wA0 := fun w h => sB34 w (List.mem_cons_of_mem _ h)
theorem mB35 : Cond.instanceMethod yX5_init ∈ wA0 := sB35 _ List.mem_cons_self
theorem sB36 : ∀ w ∈ wB36, w ∈ wA0 := fun w h => sB35 w (List.mem_cons_of_mem _ h)
theorem mB36 : Cond.instanceMethod yX4_init ∈ wA0 := sB36 _ List.mem_cons_self
theorem sB37 : ∀ w ∈ wB37, w ∈ wA0 := fun w h => sB36 w (List.mem_cons_of_mem _ h)
theorem mB37 : Cond.instanceMethod yX1_init ∈ wA0 := sB37 _ List.mem_cons_self
theorem sB38 : ∀ w ∈ wB38, w ∈ wA0 := fun w h => sB37 w (List.mem_cons_of_mem _ h)
theorem mB38 : Cond.code yX2_init cX2_init 2 none ∈ wA0 := sB38 _ List.mem_cons_self
theorem sB39 : ∀ w ∈ wB39, w ∈ wA0 := fun w h => sB38 w (List.mem_cons_of_mem _ h)
theorem mB39 : Cond.methodLink RX0 1 objectInit ∈ wA0 := sB39 _ List.mem_cons_self
theorem sB40 : ∀ w ∈ wB40, w ∈ wA0 := fun w h => sB39 w (List.mem_cons_of_mem _ h)
theorem mB40 : Cond.classLink RX0 9 RX2 ∈ wA0 := sB40 _ List.mem_cons_self
theorem sB41 : ∀ w ∈ wB41, w ∈ wA0 := fun w h => sB40 w (List.mem_cons_of_mem _ h)
theorem mB41 : Cond.fieldLink RX0 11 "CommitWaitStore$SavedStates" "ring" "[LCommitWaitStore$State;" ∈ wA0 := sB41 _ List.mem_cons_self
theorem sB42 : ∀ w ∈ wB42, w ∈ wA0 := fun w h => sB41 w (List.mem_cons_of_mem _ h)
theorem mB42 : Cond.instantiable RX2 6 ∈ wA0 := sB42 _ List.mem_cons_self
theorem sB43 : ∀ w ∈ wB43, w ∈ wA0 := fun w h => sB42 w (List.mem_cons_of_mem _ h)
theorem mB43 : Cond.initialized RX2 ∈ wA0 := sB43 _ List.mem_cons_self
theorem sB44 : ∀ w ∈ wB44, w ∈ wA0 := fun w h => sB43 w (List.mem_cons_of_mem _ h)
theorem mB44 : Cond.methodLink RX0 15 yX2_init ∈ wA0 := sB44 _ List.mem_cons_self
theorem sB45 : ∀ w ∈ wB45, w ∈ wA0 := fun w h => sB44 w (List.mem_cons_of_mem _ h)
theorem mB45 : Cond.instanceMethod yX2_init ∈ wA0 := sB45 _ List.mem_cons_self
theorem sB46 : ∀ w ∈ wB46, w ∈ wA0 := fun w h => sB45 w (List.mem_cons_of_mem _ h)
theorem mB46 : Cond.code yX0_init cX0_init 2 none ∈ wA0 := sB46 _ List.mem_cons_self
theorem sB47 : ∀ w ∈ wB47, w ∈ wA0 := fun w h => sB46 w (List.mem_cons_of_mem _ h)
theorem mB47 : Cond.code yX1_copyFrom cX1_copyFrom 2 none ∈ wA0 := sB47 _ List.mem_cons_self
theorem sB48 : ∀ w ∈ wB48, w ∈ wA0 := fun w h => sB47 w (List.mem_cons_of_mem _ h)
theorem mB48 : Cond.fieldLink RX1 16 "CommitWaitStore$Server" "offsetBase" "I" ∈ wA0 := sB48 _ List.mem_cons_self
theorem sB49 : ∀ w ∈ wB49, w ∈ wA0 := fun w h => sB48 w (List.mem_cons_of_mem _ h)
theorem mB49 : Cond.fieldLink RX1 19 "CommitWaitStore$Server" "offsetTime" "I" ∈ wA0 := sB49 _ List.mem_cons_self
theorem sB50 : ∀ w ∈ wB50, w ∈ wA0 := fun w h => sB49 w (List.mem_cons_of_mem _ h)
theorem mB50 : Cond.fieldLink RX1 22 "CommitWaitStore$Server" "drift" "I" ∈ wA0 := sB50 _ List.mem_cons_self
theorem sB51 : ∀ w ∈ wB51, w ∈ wA0 := fun w h => sB50 w (List.mem_cons_of_mem _ h)
theorem mB51 : Cond.fieldLink RX1 25 "CommitWaitStore$Server" "synchronizationTime" "I" ∈ wA0 := sB51 _ List.mem_cons_self
theorem sB52 : ∀ w ∈ wB52, w ∈ wA0 := fun w h => sB51 w (List.mem_cons_of_mem _ h)
theorem mB52 : Cond.fieldLink RX1 28 "CommitWaitStore$Server" "greatestAssigned" "I" ∈ wA0 := sB52 _ List.mem_cons_self
theorem sB53 : ∀ w ∈ wB53, w ∈ wA0 := fun w h => sB52 w (List.mem_cons_of_mem _ h)
theorem mB53 : Cond.code yX5_copyFrom cX5_copyFrom 3 none ∈ wA0 := sB53 _ List.mem_cons_self
theorem sB54 : ∀ w ∈ wB54, w ∈ wA0 := fun w h => sB53 w (List.mem_cons_of_mem _ h)
theorem mB54 : Cond.methodLink RX5 21 arraycopyName ∈ wA0 := sB54 _ List.mem_cons_self
theorem sB55 : ∀ w ∈ wB55, w ∈ wA0 := fun w h => sB54 w (List.mem_cons_of_mem _ h)
theorem mB55 : Cond.native arraycopyName ∈ wA0 := sB55 _ List.mem_cons_self
theorem sB56 : ∀ w ∈ wB56, w ∈ wA0 := fun w h => sB55 w (List.mem_cons_of_mem _ h)
theorem mB56 : Cond.static arraycopyName ∈ wA0 := sB56 _ List.mem_cons_self
theorem sB57 : ∀ w ∈ wB57, w ∈ wA0 := fun w h => sB56 w (List.mem_cons_of_mem _ h)
theorem mB57 : Cond.initialized "java/lang/System" ∈ wA0 := sB57 _ List.mem_cons_self
theorem sB58 : ∀ w ∈ wB58, w ∈ wA0 := fun w h => sB57 w (List.mem_cons_of_mem _ h)
theorem mB58 : Cond.code yX4_copyFrom cX4_copyFrom 2 none ∈ wA0 := sB58 _ List.mem_cons_self
theorem sB59 : ∀ w ∈ wB59, w ∈ wA0 := fun w h => sB58 w (List.mem_cons_of_mem _ h)
theorem mB59 : Cond.fieldLink RX4 33 "CommitWaitStore$Transactions" "begun" "I" ∈ wA0 := sB59 _ List.mem_cons_self
theorem sB60 : ∀ w ∈ wB60, w ∈ wA0 := fun w h => sB59 w (List.mem_cons_of_mem _ h)
theorem mB60 : Cond.methodLink RX4 37 arraycopyName ∈ wA0 := sB60 _ List.mem_cons_self
theorem sB61 : ∀ w ∈ wB61, w ∈ wA0 := fun w h => sB60 w (List.mem_cons_of_mem _ h)
theorem mB61 : Cond.fieldLink RX2 32 "CommitWaitStore$State" "trueTime" "I" ∈ wA0 := sB61 _ List.mem_cons_self
theorem sB62 : ∀ w ∈ wB62, w ∈ wA0 := fun w h => sB61 w (List.mem_cons_of_mem _ h)
theorem mB62 : Cond.fieldLink RX2 36 "CommitWaitStore$State" "readFloor" "I" ∈ wA0 := sB62 _ List.mem_cons_self
theorem sB63 : ∀ w ∈ wB63, w ∈ wA0 := fun w h => sB62 w (List.mem_cons_of_mem _ h)
theorem mB63 : Cond.fieldLink RX2 39 "CommitWaitStore$State" "unsoundUses" "I" ∈ wA0 := sB63 _ List.mem_cons_self
theorem sB64 : ∀ w ∈ wB64, w ∈ wA0 := fun w h => sB63 w (List.mem_cons_of_mem _ h)
theorem mB64 : Cond.methodLink RX2 42 yX1_copyFrom ∈ wA0 := sB64 _ List.mem_cons_self
theorem sB65 : ∀ w ∈ wB65, w ∈ wA0 := fun w h => sB64 w (List.mem_cons_of_mem _ h)
theorem mB65 : Cond.instanceMethod yX1_copyFrom ∈ wA0 := sB65 _ List.mem_cons_self
theorem sB66 : ∀ w ∈ wB66, w ∈ wA0 := fun w h => sB65 w (List.mem_cons_of_mem _ h)
theorem mB66 : Cond.selects RX1 yX1_copyFrom yX1_copyFrom ∈ wA0 := sB66 _ List.mem_cons_self
theorem sB67 : ∀ w ∈ wB67, w ∈ wA0 := fun w h => sB66 w (List.mem_cons_of_mem _ h)
theorem mB67 : Cond.methodLink RX2 46 yX5_copyFrom ∈ wA0 := sB67 _ List.mem_cons_self
theorem sB68 : ∀ w ∈ wB68, w ∈ wA0 := fun w h => sB67 w (List.mem_cons_of_mem _ h)
theorem mB68 : Cond.instanceMethod yX5_copyFrom ∈ wA0 := sB68 _ List.mem_cons_self
theorem sB69 : ∀ w ∈ wB69, w ∈ wA0 := fun w h => sB68 w (List.mem_cons_of_mem _ h)
theorem mB69 : Cond.selects RX5 yX5_copyFrom yX5_copyFrom ∈ wA0 := sB69 _ List.mem_cons_self
theorem sB70 : ∀ w ∈ wB70, w ∈ wA0 := fun w h => sB69 w (List.mem_cons_of_mem _ h)
theorem mB70 : Cond.methodLink RX2 49 yX4_copyFrom ∈ wA0 := sB70 _ List.mem_cons_self
theorem sB71 : ∀ w ∈ wB71, w ∈ wA0 := fun w h => sB70 w (List.mem_cons_of_mem _ h)
theorem mB71 : Cond.instanceMethod yX4_copyFrom ∈ wA0 := sB71 _ List.mem_cons_self
theorem sB72 : ∀ w ∈ wB72, w ∈ wA0 := fun w h => sB71 w (List.mem_cons_of_mem _ h)
theorem mB72 : Cond.selects RX4 yX4_copyFrom yX4_copyFrom ∈ wA0 := sB72 _ List.mem_cons_self
theorem sB73 : ∀ w ∈ wB73, w ∈ wA0 := fun w h => sB72 w (List.mem_cons_of_mem _ h)
theorem mB73 : Cond.code yX2_copyFrom cX2_copyFrom 3 none ∈ wA0 := sB73 _ List.mem_cons_self
theorem sB74 : ∀ w ∈ wB74, w ∈ wA0 := fun w h => sB73 w (List.mem_cons_of_mem _ h)
theorem mB74 : Cond.fieldLink RX0 16 "CommitWaitStore$SavedStates" "next" "I" ∈ wA0 := sB74 _ List.mem_cons_self
theorem sB75 : ∀ w ∈ wB75, w ∈ wA0 := fun w h => sB74 w (List.mem_cons_of_mem _ h)
theorem mB75 : Cond.fieldLink RX0 24 "CommitWaitStore$SavedStates" "count" "I" ∈ wA0 := sB75 _ List.mem_cons_self
theorem sB76 : ∀ w ∈ wB76, w ∈ wA0 := fun w h => sB75 w (List.mem_cons_of_mem _ h)
theorem mB76 : Cond.methodLink RX0 27 Lib.Math.min.name ∈ wA0 := sB76 _ List.mem_cons_self
theorem sB77 : ∀ w ∈ wB77, w ∈ wA0 := fun w h => sB76 w (List.mem_cons_of_mem _ h)
theorem mB77 : Cond.static Lib.Math.min.name ∈ wA0 := sB77 _ List.mem_cons_self
theorem sB78 : ∀ w ∈ wB78, w ∈ wA0 := fun w h => sB77 w (List.mem_cons_of_mem _ h)
theorem mB78 : Cond.initialized "java/lang/Math" ∈ wA0 := sB78 _ List.mem_cons_self
theorem sB79 : ∀ w ∈ wB79, w ∈ wA0 := fun w h => sB78 w (List.mem_cons_of_mem _ h)
theorem mB79 : Cond.code Lib.Math.min.name Lib.Math.min.code 2 (some .int) ∈ wA0 := sB79 _ List.mem_cons_self
theorem sB80 : ∀ w ∈ wB80, w ∈ wA0 := fun w h => sB79 w (List.mem_cons_of_mem _ h)
theorem mB80 : Cond.methodLink RX0 20 yX2_copyFrom ∈ wA0 := sB80 _ List.mem_cons_self
theorem sB81 : ∀ w ∈ wB81, w ∈ wA0 := fun w h => sB80 w (List.mem_cons_of_mem _ h)
theorem mB81 : Cond.instanceMethod yX2_copyFrom ∈ wA0 := sB81 _ List.mem_cons_self
theorem sB82 : ∀ w ∈ wB82, w ∈ wA0 := fun w h => sB81 w (List.mem_cons_of_mem _ h)
theorem mB82 : Cond.selects RX2 yX2_copyFrom yX2_copyFrom ∈ wA0 := sB82 _ List.mem_cons_self
theorem sB83 : ∀ w ∈ wB83, w ∈ wA0 := fun w h => sB82 w (List.mem_cons_of_mem _ h)
theorem mB83 : Cond.code yX0_push cX0_push 2 none ∈ wA0 := sB83 _ List.mem_cons_self
theorem sB84 : ∀ w ∈ wB84, w ∈ wA0 := fun w h => sB83 w (List.mem_cons_of_mem _ h)
theorem mB84 : Cond.code yX1_setOffset cX1_setOffset 3 none ∈ wA0 := sB84 _ List.mem_cons_self
theorem sB85 : ∀ w ∈ wB85, w ∈ wA0 := fun w h => sB84 w (List.mem_cons_of_mem _ h)
theorem mB85 : Cond.code yJ9_floorDiv_7cf53 cJ9_floorDiv_7cf53 3 (some .int) ∈ wA0 := sB85 _ List.mem_cons_self
theorem sB86 : ∀ w ∈ wB86, w ∈ wA0 := fun w h => sB85 w (List.mem_cons_of_mem _ h)
theorem mB86 : Cond.code yX1_offsetAt cX1_offsetAt 2 (some .int) ∈ wA0 := sB86 _ List.mem_cons_self
theorem sB87 : ∀ w ∈ wB87, w ∈ wA0 := fun w h => sB86 w (List.mem_cons_of_mem _ h)
theorem mB87 : Cond.methodLink RX1 35 yJ9_floorDiv_7cf53 ∈ wA0 := sB87 _ List.mem_cons_self
theorem sB88 : ∀ w ∈ wB88, w ∈ wA0 := fun w h => sB87 w (List.mem_cons_of_mem _ h)
theorem mB88 : Cond.static yJ9_floorDiv_7cf53 ∈ wA0 := sB88 _ List.mem_cons_self
theorem sB89 : ∀ w ∈ wB89, w ∈ wA0 := fun w h => sB88 w (List.mem_cons_of_mem _ h)
theorem mB89 : Cond.initialized RJ9 ∈ wA0 := sB89 _ List.mem_cons_self
theorem sB90 : ∀ w ∈ wB90, w ∈ wA0 := fun w h => sB89 w (List.mem_cons_of_mem _ h)
theorem mB90 : Cond.code yX1_changeDrift cX1_changeDrift 4 (some .int) ∈ wA0 := sB90 _ List.mem_cons_self
theorem sB91 : ∀ w ∈ wB91, w ∈ wA0 := fun w h => sB90 w (List.mem_cons_of_mem _ h)
theorem mB91 : Cond.methodLink RX1 31 yX1_offsetAt ∈ wA0 := sB91 _ List.mem_cons_self
theorem sB92 : ∀ w ∈ wB92, w ∈ wA0 := fun w h => sB91 w (List.mem_cons_of_mem _ h)
theorem mB92 : Cond.instanceMethod yX1_offsetAt ∈ wA0 := sB92 _ List.mem_cons_self
theorem sB93 : ∀ w ∈ wB93, w ∈ wA0 := fun w h => sB92 w (List.mem_cons_of_mem _ h)
theorem mB93 : Cond.selects RX1 yX1_offsetAt yX1_offsetAt ∈ wA0 := sB93 _ List.mem_cons_self
theorem sB94 : ∀ w ∈ wB94, w ∈ wA0 := fun w h => sB93 w (List.mem_cons_of_mem _ h)
theorem mB94 : Cond.code yX1_changeUncertainty cX1_changeUncertainty 3 none ∈ wA0 := sB94 _ List.mem_cons_self
theorem sB95 : ∀ w ∈ wB95, w ∈ wA0 := fun w h => sB94 w (List.mem_cons_of_mem _ h)
theorem mB95 : Cond.code yX1_uncertaintyAt cX1_uncertaintyAt 2 (some .int) ∈ wA0 := sB95 _ List.mem_cons_self
theorem sB96 : ∀ w ∈ wB96, w ∈ wA0 := fun w h => sB95 w (List.mem_cons_of_mem _ h)
theorem mB96 : Cond.code yX1_earliestAt cX1_earliestAt 2 (some .int) ∈ wA0 := sB96 _ List.mem_cons_self
theorem sB97 : ∀ w ∈ wB97, w ∈ wA0 := fun w h => sB96 w (List.mem_cons_of_mem _ h)
theorem mB97 : Cond.methodLink RX1 41 yX1_uncertaintyAt ∈ wA0 := sB97 _ List.mem_cons_self
theorem sB98 : ∀ w ∈ wB98, w ∈ wA0 := fun w h => sB97 w (List.mem_cons_of_mem _ h)
theorem mB98 : Cond.instanceMethod yX1_uncertaintyAt ∈ wA0 := sB98 _ List.mem_cons_self
theorem sB99 : ∀ w ∈ wB99, w ∈ wA0 := fun w h => sB98 w (List.mem_cons_of_mem _ h)
theorem mB99 : Cond.selects RX1 yX1_uncertaintyAt yX1_uncertaintyAt ∈ wA0 := sB99 _ List.mem_cons_self
theorem sB100 : ∀ w ∈ wB100, w ∈ wA0 := fun w h => sB99 w (List.mem_cons_of_mem _ h)
theorem mB100 : Cond.code yX1_latestAt cX1_latestAt 2 (some .int) ∈ wA0 := sB100 _ List.mem_cons_self
theorem sB101 : ∀ w ∈ wB101, w ∈ wA0 := fun w h => sB100 w (List.mem_cons_of_mem _ h)
theorem mB101 : Cond.code yX1_isSoundAt cX1_isSoundAt 4 (some .boolean) ∈ wA0 := sB101 _ List.mem_cons_self
theorem sB102 : ∀ w ∈ wB102, w ∈ wA0 := fun w h => sB101 w (List.mem_cons_of_mem _ h)
theorem mB102 : Cond.code yX1_ticksUntilLatestPasses cX1_ticksUntilLatestPasses 8 (some .int) ∈ wA0 := sB102 _ List.mem_cons_self
theorem sB103 : ∀ w ∈ wB103, w ∈ wA0 := fun w h => sB102 w (List.mem_cons_of_mem _ h)
theorem mB103 : Cond.constantLong RX1 47 (3) ∈ wA0 := sB103 _ List.mem_cons_self
theorem sB104 : ∀ w ∈ wB104, w ∈ wA0 := fun w h => sB103 w (List.mem_cons_of_mem _ h)
theorem mB104 : Cond.methodLink RX1 44 yX1_latestAt ∈ wA0 := sB104 _ List.mem_cons_self
theorem sB105 : ∀ w ∈ wB105, w ∈ wA0 := fun w h => sB104 w (List.mem_cons_of_mem _ h)
theorem mB105 : Cond.instanceMethod yX1_latestAt ∈ wA0 := sB105 _ List.mem_cons_self
theorem sB106 : ∀ w ∈ wB106, w ∈ wA0 := fun w h => sB105 w (List.mem_cons_of_mem _ h)
theorem mB106 : Cond.selects RX1 yX1_latestAt yX1_latestAt ∈ wA0 := sB106 _ List.mem_cons_self
theorem sB107 : ∀ w ∈ wB107, w ∈ wA0 := fun w h => sB106 w (List.mem_cons_of_mem _ h)
theorem mB107 : Cond.code yX2_canBegin cX2_canBegin 1 (some .boolean) ∈ wA0 := sB107 _ List.mem_cons_self
theorem sB108 : ∀ w ∈ wB108, w ∈ wA0 := fun w h => sB107 w (List.mem_cons_of_mem _ h)
theorem mB108 : Cond.fieldLink RX2 52 "CommitWaitStore$Transactions" "begun" "I" ∈ wA0 := sB108 _ List.mem_cons_self
theorem sB109 : ∀ w ∈ wB109, w ∈ wA0 := fun w h => sB108 w (List.mem_cons_of_mem _ h)
theorem mB109 : Cond.code yX4_bufferValue cX4_bufferValue 4 none ∈ wA0 := sB109 _ List.mem_cons_self
theorem sB110 : ∀ w ∈ wB110, w ∈ wA0 := fun w h => sB109 w (List.mem_cons_of_mem _ h)
theorem mB110 : Cond.code yX4_recordVersion cX4_recordVersion 4 none ∈ wA0 := sB110 _ List.mem_cons_self
theorem sB111 : ∀ w ∈ wB111, w ∈ wA0 := fun w h => sB110 w (List.mem_cons_of_mem _ h)
theorem mB111 : Cond.code yX4_add cX4_add 4 (some .int) ∈ wA0 := sB111 _ List.mem_cons_self
theorem sB112 : ∀ w ∈ wB112, w ∈ wA0 := fun w h => sB111 w (List.mem_cons_of_mem _ h)
theorem mB112 : Cond.methodLink RX4 43 yX4_bufferValue ∈ wA0 := sB112 _ List.mem_cons_self
theorem sB113 : ∀ w ∈ wB113, w ∈ wA0 := fun w h => sB112 w (List.mem_cons_of_mem _ h)
theorem mB113 : Cond.instanceMethod yX4_bufferValue ∈ wA0 := sB113 _ List.mem_cons_self
theorem sB114 : ∀ w ∈ wB114, w ∈ wA0 := fun w h => sB113 w (List.mem_cons_of_mem _ h)
theorem mB114 : Cond.selects RX4 yX4_bufferValue yX4_bufferValue ∈ wA0 := sB114 _ List.mem_cons_self
theorem sB115 : ∀ w ∈ wB115, w ∈ wA0 := fun w h => sB114 w (List.mem_cons_of_mem _ h)
theorem mB115 : Cond.methodLink RX4 47 yX4_recordVersion ∈ wA0 := sB115 _ List.mem_cons_self
theorem sB116 : ∀ w ∈ wB116, w ∈ wA0 := fun w h => sB115 w (List.mem_cons_of_mem _ h)
theorem mB116 : Cond.instanceMethod yX4_recordVersion ∈ wA0 := sB116 _ List.mem_cons_self
theorem sB117 : ∀ w ∈ wB117, w ∈ wA0 := fun w h => sB116 w (List.mem_cons_of_mem _ h)
theorem mB117 : Cond.selects RX4 yX4_recordVersion yX4_recordVersion ∈ wA0 := sB117 _ List.mem_cons_self
theorem sB118 : ∀ w ∈ wB118, w ∈ wA0 := fun w h => sB117 w (List.mem_cons_of_mem _ h)
theorem mB118 : Cond.code yX2_beginAt cX2_beginAt 2 (some .int) ∈ wA0 := sB118 _ List.mem_cons_self
theorem sB119 : ∀ w ∈ wB119, w ∈ wA0 := fun w h => sB118 w (List.mem_cons_of_mem _ h)
theorem mB119 : Cond.methodLink RX2 55 yX4_add ∈ wA0 := sB119 _ List.mem_cons_self
theorem sB120 : ∀ w ∈ wB120, w ∈ wA0 := fun w h => sB119 w (List.mem_cons_of_mem _ h)
theorem mB120 : Cond.instanceMethod yX4_add ∈ wA0 := sB120 _ List.mem_cons_self
theorem sB121 : ∀ w ∈ wB121, w ∈ wA0 := fun w h => sB120 w (List.mem_cons_of_mem _ h)
theorem mB121 : Cond.selects RX4 yX4_add yX4_add ∈ wA0 := sB121 _ List.mem_cons_self
theorem sB122 : ∀ w ∈ wB122, w ∈ wA0 := fun w h => sB121 w (List.mem_cons_of_mem _ h)
theorem mB122 : Cond.code yX4_hasWritten cX4_hasWritten 3 (some .boolean) ∈ wA0 := sB122 _ List.mem_cons_self
theorem sB123 : ∀ w ∈ wB123, w ∈ wA0 := fun w h => sB122 w (List.mem_cons_of_mem _ h)
theorem mB123 : Cond.code yX4_bufferOf cX4_bufferOf 3 (some .int) ∈ wA0 := sB123 _ List.mem_cons_self
theorem sB124 : ∀ w ∈ wB124, w ∈ wA0 := fun w h => sB123 w (List.mem_cons_of_mem _ h)
theorem mB124 : Cond.code yX4_hasRead cX4_hasRead 3 (some .boolean) ∈ wA0 := sB124 _ List.mem_cons_self
theorem sB125 : ∀ w ∈ wB125, w ∈ wA0 := fun w h => sB124 w (List.mem_cons_of_mem _ h)
theorem mB125 : Cond.code yX5_newest cX5_newest 2 (some .int) ∈ wA0 := sB125 _ List.mem_cons_self
theorem sB126 : ∀ w ∈ wB126, w ∈ wA0 := fun w h => sB125 w (List.mem_cons_of_mem _ h)
theorem mB126 : Cond.code yX4_recordedVersion cX4_recordedVersion 3 (some .int) ∈ wA0 := sB126 _ List.mem_cons_self
theorem sB127 : ∀ w ∈ wB127, w ∈ wA0 := fun w h => sB126 w (List.mem_cons_of_mem _ h)
theorem mB127 : Cond.code yX5_valueOfVersion cX5_valueOfVersion 3 (some .int) ∈ wA0 := sB127 _ List.mem_cons_self
theorem sB128 : ∀ w ∈ wB128, w ∈ wA0 := fun w h => sB127 w (List.mem_cons_of_mem _ h)
theorem mB128 : Cond.methodLink RX2 59 yX4_hasWritten ∈ wA0 := sB128 _ List.mem_cons_self
theorem sB129 : ∀ w ∈ wB129, w ∈ wA0 := fun w h => sB128 w (List.mem_cons_of_mem _ h)
theorem mB129 : Cond.instanceMethod yX4_hasWritten ∈ wA0 := sB129 _ List.mem_cons_self
theorem sB130 : ∀ w ∈ wB130, w ∈ wA0 := fun w h => sB129 w (List.mem_cons_of_mem _ h)
theorem mB130 : Cond.selects RX4 yX4_hasWritten yX4_hasWritten ∈ wA0 := sB130 _ List.mem_cons_self
theorem sB131 : ∀ w ∈ wB131, w ∈ wA0 := fun w h => sB130 w (List.mem_cons_of_mem _ h)
theorem mB131 : Cond.methodLink RX2 63 yX4_bufferOf ∈ wA0 := sB131 _ List.mem_cons_self
theorem sB132 : ∀ w ∈ wB132, w ∈ wA0 := fun w h => sB131 w (List.mem_cons_of_mem _ h)
theorem mB132 : Cond.instanceMethod yX4_bufferOf ∈ wA0 := sB132 _ List.mem_cons_self
theorem sB133 : ∀ w ∈ wB133, w ∈ wA0 := fun w h => sB132 w (List.mem_cons_of_mem _ h)
theorem mB133 : Cond.selects RX4 yX4_bufferOf yX4_bufferOf ∈ wA0 := sB133 _ List.mem_cons_self
theorem sB134 : ∀ w ∈ wB134, w ∈ wA0 := fun w h => sB133 w (List.mem_cons_of_mem _ h)
theorem mB134 : Cond.methodLink RX2 67 yX4_hasRead ∈ wA0 := sB134 _ List.mem_cons_self
theorem sB135 : ∀ w ∈ wB135, w ∈ wA0 := fun w h => sB134 w (List.mem_cons_of_mem _ h)
theorem mB135 : Cond.instanceMethod yX4_hasRead ∈ wA0 := sB135 _ List.mem_cons_self
theorem sB136 : ∀ w ∈ wB136, w ∈ wA0 := fun w h => sB135 w (List.mem_cons_of_mem _ h)
theorem mB136 : Cond.selects RX4 yX4_hasRead yX4_hasRead ∈ wA0 := sB136 _ List.mem_cons_self
theorem sB137 : ∀ w ∈ wB137, w ∈ wA0 := fun w h => sB136 w (List.mem_cons_of_mem _ h)
theorem mB137 : Cond.methodLink RX2 70 yX5_newest ∈ wA0 := sB137 _ List.mem_cons_self
theorem sB138 : ∀ w ∈ wB138, w ∈ wA0 := fun w h => sB137 w (List.mem_cons_of_mem _ h)
theorem mB138 : Cond.instanceMethod yX5_newest ∈ wA0 := sB138 _ List.mem_cons_self
theorem sB139 : ∀ w ∈ wB139, w ∈ wA0 := fun w h => sB138 w (List.mem_cons_of_mem _ h)
theorem mB139 : Cond.selects RX5 yX5_newest yX5_newest ∈ wA0 := sB139 _ List.mem_cons_self
theorem sB140 : ∀ w ∈ wB140, w ∈ wA0 := fun w h => sB139 w (List.mem_cons_of_mem _ h)
theorem mB140 : Cond.methodLink RX2 73 yX4_recordVersion ∈ wA0 := sB140 _ List.mem_cons_self
theorem sB141 : ∀ w ∈ wB141, w ∈ wA0 := fun w h => sB140 w (List.mem_cons_of_mem _ h)
theorem mB141 : Cond.methodLink RX2 77 yX4_recordedVersion ∈ wA0 := sB141 _ List.mem_cons_self
theorem sB142 : ∀ w ∈ wB142, w ∈ wA0 := fun w h => sB141 w (List.mem_cons_of_mem _ h)
theorem mB142 : Cond.instanceMethod yX4_recordedVersion ∈ wA0 := sB142 _ List.mem_cons_self
theorem sB143 : ∀ w ∈ wB143, w ∈ wA0 := fun w h => sB142 w (List.mem_cons_of_mem _ h)
theorem mB143 : Cond.selects RX4 yX4_recordedVersion yX4_recordedVersion ∈ wA0 := sB143 _ List.mem_cons_self
theorem sB144 : ∀ w ∈ wB144, w ∈ wA0 := fun w h => sB143 w (List.mem_cons_of_mem _ h)
theorem mB144 : Cond.methodLink RX2 80 yX5_valueOfVersion ∈ wA0 := sB144 _ List.mem_cons_self
theorem sB145 : ∀ w ∈ wB145, w ∈ wA0 := fun w h => sB144 w (List.mem_cons_of_mem _ h)
theorem mB145 : Cond.instanceMethod yX5_valueOfVersion ∈ wA0 := sB145 _ List.mem_cons_self
theorem sB146 : ∀ w ∈ wB146, w ∈ wA0 := fun w h => sB145 w (List.mem_cons_of_mem _ h)
theorem mB146 : Cond.selects RX5 yX5_valueOfVersion yX5_valueOfVersion ∈ wA0 := sB146 _ List.mem_cons_self
theorem sB147 : ∀ w ∈ wB147, w ∈ wA0 := fun w h => sB146 w (List.mem_cons_of_mem _ h)
theorem mB147 : Cond.code yX2_readKey cX2_readKey 3 (some .int) ∈ wA0 := sB147 _ List.mem_cons_self
theorem sB148 : ∀ w ∈ wB148, w ∈ wA0 := fun w h => sB147 w (List.mem_cons_of_mem _ h)
theorem mB148 : Cond.code yX4_writtenKeys cX4_writtenKeys 4 (some .int) ∈ wA0 := sB148 _ List.mem_cons_self
theorem sB149 : ∀ w ∈ wB149, w ∈ wA0 := fun w h => sB148 w (List.mem_cons_of_mem _ h)
theorem mB149 : Cond.methodLink RX4 54 yX4_hasWritten ∈ wA0 := sB149 _ List.mem_cons_self
theorem sB150 : ∀ w ∈ wB150, w ∈ wA0 := fun w h => sB149 w (List.mem_cons_of_mem _ h)
theorem mB150 : Cond.code yX2_writeKey cX2_writeKey 4 (some .int) ∈ wA0 := sB150 _ List.mem_cons_self
theorem sB151 : ∀ w ∈ wB151, w ∈ wA0 := fun w h => sB150 w (List.mem_cons_of_mem _ h)
theorem mB151 : Cond.methodLink RX2 83 yX4_bufferValue ∈ wA0 := sB151 _ List.mem_cons_self
theorem sB152 : ∀ w ∈ wB152, w ∈ wA0 := fun w h => sB151 w (List.mem_cons_of_mem _ h)
theorem mB152 : Cond.methodLink RX2 86 yX4_writtenKeys ∈ wA0 := sB152 _ List.mem_cons_self
theorem sB153 : ∀ w ∈ wB153, w ∈ wA0 := fun w h => sB152 w (List.mem_cons_of_mem _ h)
theorem mB153 : Cond.instanceMethod yX4_writtenKeys ∈ wA0 := sB153 _ List.mem_cons_self
theorem sB154 : ∀ w ∈ wB154, w ∈ wA0 := fun w h => sB153 w (List.mem_cons_of_mem _ h)
theorem mB154 : Cond.selects RX4 yX4_writtenKeys yX4_writtenKeys ∈ wA0 := sB154 _ List.mem_cons_self
theorem sB155 : ∀ w ∈ wB155, w ∈ wA0 := fun w h => sB154 w (List.mem_cons_of_mem _ h)
theorem mB155 : Cond.code yX2_hasConflict cX2_hasConflict 3 (some .boolean) ∈ wA0 := sB155 _ List.mem_cons_self
theorem sB156 : ∀ w ∈ wB156, w ∈ wA0 := fun w h => sB155 w (List.mem_cons_of_mem _ h)
theorem mB156 : Cond.code yX4_hasTouched cX4_hasTouched 3 (some .boolean) ∈ wA0 := sB156 _ List.mem_cons_self
theorem sB157 : ∀ w ∈ wB157, w ∈ wA0 := fun w h => sB156 w (List.mem_cons_of_mem _ h)
theorem mB157 : Cond.methodLink RX4 50 yX4_hasRead ∈ wA0 := sB157 _ List.mem_cons_self
theorem sB158 : ∀ w ∈ wB158, w ∈ wA0 := fun w h => sB157 w (List.mem_cons_of_mem _ h)
theorem mB158 : Cond.code yX4_locks cX4_locks 4 (some .boolean) ∈ wA0 := sB158 _ List.mem_cons_self
theorem sB159 : ∀ w ∈ wB159, w ∈ wA0 := fun w h => sB158 w (List.mem_cons_of_mem _ h)
theorem mB159 : Cond.methodLink RX4 57 yX4_hasTouched ∈ wA0 := sB159 _ List.mem_cons_self
theorem sB160 : ∀ w ∈ wB160, w ∈ wA0 := fun w h => sB159 w (List.mem_cons_of_mem _ h)
theorem mB160 : Cond.instanceMethod yX4_hasTouched ∈ wA0 := sB160 _ List.mem_cons_self
theorem sB161 : ∀ w ∈ wB161, w ∈ wA0 := fun w h => sB160 w (List.mem_cons_of_mem _ h)
theorem mB161 : Cond.selects RX4 yX4_hasTouched yX4_hasTouched ∈ wA0 := sB161 _ List.mem_cons_self
theorem sB162 : ∀ w ∈ wB162, w ∈ wA0 := fun w h => sB161 w (List.mem_cons_of_mem _ h)
theorem mB162 : Cond.code yX4_isLockedOut cX4_isLockedOut 3 (some .boolean) ∈ wA0 := sB162 _ List.mem_cons_self
theorem sB163 : ∀ w ∈ wB163, w ∈ wA0 := fun w h => sB162 w (List.mem_cons_of_mem _ h)
theorem mB163 : Cond.methodLink RX4 60 yX4_locks ∈ wA0 := sB163 _ List.mem_cons_self
theorem sB164 : ∀ w ∈ wB164, w ∈ wA0 := fun w h => sB163 w (List.mem_cons_of_mem _ h)
theorem mB164 : Cond.instanceMethod yX4_locks ∈ wA0 := sB164 _ List.mem_cons_self
theorem sB165 : ∀ w ∈ wB165, w ∈ wA0 := fun w h => sB164 w (List.mem_cons_of_mem _ h)
theorem mB165 : Cond.selects RX4 yX4_locks yX4_locks ∈ wA0 := sB165 _ List.mem_cons_self
theorem sB166 : ∀ w ∈ wB166, w ∈ wA0 := fun w h => sB165 w (List.mem_cons_of_mem _ h)
theorem mB166 : Cond.fieldLink RX2 133 "CommitWaitStore$Server" "greatestAssigned" "I" ∈ wA0 := sB166 _ List.mem_cons_self
theorem sB167 : ∀ w ∈ wB167, w ∈ wA0 := fun w h => sB166 w (List.mem_cons_of_mem _ h)
theorem mB167 : Cond.methodLink RX2 109 Lib.Math.max.name ∈ wA0 := sB167 _ List.mem_cons_self
theorem sB168 : ∀ w ∈ wB168, w ∈ wA0 := fun w h => sB167 w (List.mem_cons_of_mem _ h)
theorem mB168 : Cond.static Lib.Math.max.name ∈ wA0 := sB168 _ List.mem_cons_self
theorem sB169 : ∀ w ∈ wB169, w ∈ wA0 := fun w h => sB168 w (List.mem_cons_of_mem _ h)
theorem mB169 : Cond.code Lib.Math.max.name Lib.Math.max.code 2 (some .int) ∈ wA0 := sB169 _ List.mem_cons_self
theorem sB170 : ∀ w ∈ wB170, w ∈ wA0 := fun w h => sB169 w (List.mem_cons_of_mem _ h)
theorem mB170 : Cond.methodLink RX2 160 yX1_latestAt ∈ wA0 := sB170 _ List.mem_cons_self
theorem sB171 : ∀ w ∈ wB171, w ∈ wA0 := fun w h => sB170 w (List.mem_cons_of_mem _ h)
theorem mB171 : Cond.code yX2_nextTimestampOf cX2_nextTimestampOf 3 (some .int) ∈ wA0 := sB171 _ List.mem_cons_self
theorem sB172 : ∀ w ∈ wB172, w ∈ wA0 := fun w h => sB171 w (List.mem_cons_of_mem _ h)
theorem mB172 : Cond.code yX5_timestampOf cX5_timestampOf 3 (some .int) ∈ wA0 := sB172 _ List.mem_cons_self
theorem sB173 : ∀ w ∈ wB173, w ∈ wA0 := fun w h => sB172 w (List.mem_cons_of_mem _ h)
theorem mB173 : Cond.code yX4_greatestReaderTimestamp cX4_greatestReaderTimestamp 4 (some .int) ∈ wA0 := sB173 _ List.mem_cons_self
theorem sB174 : ∀ w ∈ wB174, w ∈ wA0 := fun w h => sB173 w (List.mem_cons_of_mem _ h)
theorem mB174 : Cond.methodLink RX4 63 Lib.Math.max.name ∈ wA0 := sB174 _ List.mem_cons_self
theorem sB175 : ∀ w ∈ wB175, w ∈ wA0 := fun w h => sB174 w (List.mem_cons_of_mem _ h)
theorem mB175 : Cond.fieldLink RX2 96 "CommitWaitStore$Transactions" "server" "[I" ∈ wA0 := sB175 _ List.mem_cons_self
theorem sB176 : ∀ w ∈ wB176, w ∈ wA0 := fun w h => sB175 w (List.mem_cons_of_mem _ h)
theorem mB176 : Cond.methodLink RX2 89 yX2_hasConflict ∈ wA0 := sB176 _ List.mem_cons_self
theorem sB177 : ∀ w ∈ wB177, w ∈ wA0 := fun w h => sB176 w (List.mem_cons_of_mem _ h)
theorem mB177 : Cond.instanceMethod yX2_hasConflict ∈ wA0 := sB177 _ List.mem_cons_self
theorem sB178 : ∀ w ∈ wB178, w ∈ wA0 := fun w h => sB177 w (List.mem_cons_of_mem _ h)
theorem mB178 : Cond.selects RX2 yX2_hasConflict yX2_hasConflict ∈ wA0 := sB178 _ List.mem_cons_self
theorem sB179 : ∀ w ∈ wB179, w ∈ wA0 := fun w h => sB178 w (List.mem_cons_of_mem _ h)
theorem mB179 : Cond.methodLink RX2 93 yX4_isLockedOut ∈ wA0 := sB179 _ List.mem_cons_self
theorem sB180 : ∀ w ∈ wB180, w ∈ wA0 := fun w h => sB179 w (List.mem_cons_of_mem _ h)
theorem mB180 : Cond.instanceMethod yX4_isLockedOut ∈ wA0 := sB180 _ List.mem_cons_self
theorem sB181 : ∀ w ∈ wB181, w ∈ wA0 := fun w h => sB180 w (List.mem_cons_of_mem _ h)
theorem mB181 : Cond.selects RX4 yX4_isLockedOut yX4_isLockedOut ∈ wA0 := sB181 _ List.mem_cons_self
theorem sB182 : ∀ w ∈ wB182, w ∈ wA0 := fun w h => sB181 w (List.mem_cons_of_mem _ h)
theorem mB182 : Cond.methodLink RX2 100 yX2_nextTimestampOf ∈ wA0 := sB182 _ List.mem_cons_self
theorem sB183 : ∀ w ∈ wB183, w ∈ wA0 := fun w h => sB182 w (List.mem_cons_of_mem _ h)
theorem mB183 : Cond.instanceMethod yX2_nextTimestampOf ∈ wA0 := sB183 _ List.mem_cons_self
theorem sB184 : ∀ w ∈ wB184, w ∈ wA0 := fun w h => sB183 w (List.mem_cons_of_mem _ h)
theorem mB184 : Cond.selects RX2 yX2_nextTimestampOf yX2_nextTimestampOf ∈ wA0 := sB184 _ List.mem_cons_self
theorem sB185 : ∀ w ∈ wB185, w ∈ wA0 := fun w h => sB184 w (List.mem_cons_of_mem _ h)
theorem mB185 : Cond.methodLink RX2 103 yX4_hasTouched ∈ wA0 := sB185 _ List.mem_cons_self
theorem sB186 : ∀ w ∈ wB186, w ∈ wA0 := fun w h => sB185 w (List.mem_cons_of_mem _ h)
theorem mB186 : Cond.methodLink RX2 106 yX5_timestampOf ∈ wA0 := sB186 _ List.mem_cons_self
theorem sB187 : ∀ w ∈ wB187, w ∈ wA0 := fun w h => sB186 w (List.mem_cons_of_mem _ h)
theorem mB187 : Cond.instanceMethod yX5_timestampOf ∈ wA0 := sB187 _ List.mem_cons_self
theorem sB188 : ∀ w ∈ wB188, w ∈ wA0 := fun w h => sB187 w (List.mem_cons_of_mem _ h)
theorem mB188 : Cond.selects RX5 yX5_timestampOf yX5_timestampOf ∈ wA0 := sB188 _ List.mem_cons_self
theorem sB189 : ∀ w ∈ wB189, w ∈ wA0 := fun w h => sB188 w (List.mem_cons_of_mem _ h)
theorem mB189 : Cond.methodLink RX2 114 yX4_greatestReaderTimestamp ∈ wA0 := sB189 _ List.mem_cons_self
theorem sB190 : ∀ w ∈ wB190, w ∈ wA0 := fun w h => sB189 w (List.mem_cons_of_mem _ h)
theorem mB190 : Cond.instanceMethod yX4_greatestReaderTimestamp ∈ wA0 := sB190 _ List.mem_cons_self
theorem sB191 : ∀ w ∈ wB191, w ∈ wA0 := fun w h => sB190 w (List.mem_cons_of_mem _ h)
theorem mB191 : Cond.selects RX4 yX4_greatestReaderTimestamp yX4_greatestReaderTimestamp ∈ wA0 := sB191 _ List.mem_cons_self
theorem sB192 : ∀ w ∈ wB192, w ∈ wA0 := fun w h => sB191 w (List.mem_cons_of_mem _ h)
theorem mB192 : Cond.code yX2_commitOutcome cX2_commitOutcome 4 (some .int) ∈ wA0 := sB192 _ List.mem_cons_self
theorem sB193 : ∀ w ∈ wB193, w ∈ wA0 := fun w h => sB192 w (List.mem_cons_of_mem _ h)
theorem mB193 : Cond.code yX2_makeAborted cX2_makeAborted 2 (some .int) ∈ wA0 := sB193 _ List.mem_cons_self
theorem sB194 : ∀ w ∈ wB194, w ∈ wA0 := fun w h => sB193 w (List.mem_cons_of_mem _ h)
theorem mB194 : Cond.fieldLink RX2 124 "CommitWaitStore$Transactions" "status" "[I" ∈ wA0 := sB194 _ List.mem_cons_self
theorem sB195 : ∀ w ∈ wB195, w ∈ wA0 := fun w h => sB194 w (List.mem_cons_of_mem _ h)
theorem mB195 : Cond.fieldLink RX2 127 "CommitWaitStore$Transactions" "timestamp" "[I" ∈ wA0 := sB195 _ List.mem_cons_self
theorem sB196 : ∀ w ∈ wB196, w ∈ wA0 := fun w h => sB195 w (List.mem_cons_of_mem _ h)
theorem mB196 : Cond.fieldLink RX2 130 "CommitWaitStore$Transactions" "requestTime" "[I" ∈ wA0 := sB196 _ List.mem_cons_self
theorem sB197 : ∀ w ∈ wB197, w ∈ wA0 := fun w h => sB196 w (List.mem_cons_of_mem _ h)
theorem mB197 : Cond.methodLink RX2 136 yX1_isSoundAt ∈ wA0 := sB197 _ List.mem_cons_self
theorem sB198 : ∀ w ∈ wB198, w ∈ wA0 := fun w h => sB197 w (List.mem_cons_of_mem _ h)
theorem mB198 : Cond.instanceMethod yX1_isSoundAt ∈ wA0 := sB198 _ List.mem_cons_self
theorem sB199 : ∀ w ∈ wB199, w ∈ wA0 := fun w h => sB198 w (List.mem_cons_of_mem _ h)
theorem mB199 : Cond.selects RX1 yX1_isSoundAt yX1_isSoundAt ∈ wA0 := sB199 _ List.mem_cons_self
theorem sB200 : ∀ w ∈ wB200, w ∈ wA0 := fun w h => sB199 w (List.mem_cons_of_mem _ h)
theorem mB200 : Cond.code yX2_makeWaiting cX2_makeWaiting 4 none ∈ wA0 := sB200 _ List.mem_cons_self
theorem sB201 : ∀ w ∈ wB201, w ∈ wA0 := fun w h => sB200 w (List.mem_cons_of_mem _ h)
theorem mB201 : Cond.methodLink RX2 117 yX2_makeAborted ∈ wA0 := sB201 _ List.mem_cons_self
theorem sB202 : ∀ w ∈ wB202, w ∈ wA0 := fun w h => sB201 w (List.mem_cons_of_mem _ h)
theorem mB202 : Cond.instanceMethod yX2_makeAborted ∈ wA0 := sB202 _ List.mem_cons_self
theorem sB203 : ∀ w ∈ wB203, w ∈ wA0 := fun w h => sB202 w (List.mem_cons_of_mem _ h)
theorem mB203 : Cond.selects RX2 yX2_makeAborted yX2_makeAborted ∈ wA0 := sB203 _ List.mem_cons_self
theorem sB204 : ∀ w ∈ wB204, w ∈ wA0 := fun w h => sB203 w (List.mem_cons_of_mem _ h)
theorem mB204 : Cond.methodLink RX2 120 yX2_makeWaiting ∈ wA0 := sB204 _ List.mem_cons_self
theorem sB205 : ∀ w ∈ wB205, w ∈ wA0 := fun w h => sB204 w (List.mem_cons_of_mem _ h)
theorem mB205 : Cond.instanceMethod yX2_makeWaiting ∈ wA0 := sB205 _ List.mem_cons_self
theorem sB206 : ∀ w ∈ wB206, w ∈ wA0 := fun w h => sB205 w (List.mem_cons_of_mem _ h)
theorem mB206 : Cond.selects RX2 yX2_makeWaiting yX2_makeWaiting ∈ wA0 := sB206 _ List.mem_cons_self
theorem sB207 : ∀ w ∈ wB207, w ∈ wA0 := fun w h => sB206 w (List.mem_cons_of_mem _ h)
theorem mB207 : Cond.code yX2_carryOut cX2_carryOut 3 none ∈ wA0 := sB207 _ List.mem_cons_self
theorem sB208 : ∀ w ∈ wB208, w ∈ wA0 := fun w h => sB207 w (List.mem_cons_of_mem _ h)
theorem mB208 : Cond.code yX5_add cX5_add 5 none ∈ wA0 := sB208 _ List.mem_cons_self
theorem sB209 : ∀ w ∈ wB209, w ∈ wA0 := fun w h => sB208 w (List.mem_cons_of_mem _ h)
theorem mB209 : Cond.fieldLink RX2 139 "CommitWaitStore$Transactions" "commitTime" "[I" ∈ wA0 := sB209 _ List.mem_cons_self
theorem sB210 : ∀ w ∈ wB210, w ∈ wA0 := fun w h => sB209 w (List.mem_cons_of_mem _ h)
theorem mB210 : Cond.methodLink RX2 142 yX5_add ∈ wA0 := sB210 _ List.mem_cons_self
theorem sB211 : ∀ w ∈ wB211, w ∈ wA0 := fun w h => sB210 w (List.mem_cons_of_mem _ h)
theorem mB211 : Cond.instanceMethod yX5_add ∈ wA0 := sB211 _ List.mem_cons_self
theorem sB212 : ∀ w ∈ wB212, w ∈ wA0 := fun w h => sB211 w (List.mem_cons_of_mem _ h)
theorem mB212 : Cond.selects RX5 yX5_add yX5_add ∈ wA0 := sB212 _ List.mem_cons_self
theorem sB213 : ∀ w ∈ wB213, w ∈ wA0 := fun w h => sB212 w (List.mem_cons_of_mem _ h)
theorem mB213 : Cond.code yX2_makeCommitted cX2_makeCommitted 4 none ∈ wA0 := sB213 _ List.mem_cons_self
theorem sB214 : ∀ w ∈ wB214, w ∈ wA0 := fun w h => sB213 w (List.mem_cons_of_mem _ h)
theorem mB214 : Cond.code yX2_canAdvance cX2_canAdvance 2 (some .boolean) ∈ wA0 := sB214 _ List.mem_cons_self
theorem sB215 : ∀ w ∈ wB215, w ∈ wA0 := fun w h => sB214 w (List.mem_cons_of_mem _ h)
theorem mB215 : Cond.constant RX2 144 (1000000) ∈ wA0 := sB215 _ List.mem_cons_self
theorem sB216 : ∀ w ∈ wB216, w ∈ wA0 := fun w h => sB215 w (List.mem_cons_of_mem _ h)
theorem mB216 : Cond.methodLink RX2 151 yX1_earliestAt ∈ wA0 := sB216 _ List.mem_cons_self
theorem sB217 : ∀ w ∈ wB217, w ∈ wA0 := fun w h => sB216 w (List.mem_cons_of_mem _ h)
theorem mB217 : Cond.instanceMethod yX1_earliestAt ∈ wA0 := sB217 _ List.mem_cons_self
theorem sB218 : ∀ w ∈ wB218, w ∈ wA0 := fun w h => sB217 w (List.mem_cons_of_mem _ h)
theorem mB218 : Cond.selects RX1 yX1_earliestAt yX1_earliestAt ∈ wA0 := sB218 _ List.mem_cons_self
theorem sB219 : ∀ w ∈ wB219, w ∈ wA0 := fun w h => sB218 w (List.mem_cons_of_mem _ h)
theorem mB219 : Cond.code yX2_ticksUntilCommitted cX2_ticksUntilCommitted 6 (some .int) ∈ wA0 := sB219 _ List.mem_cons_self
theorem sB220 : ∀ w ∈ wB220, w ∈ wA0 := fun w h => sB219 w (List.mem_cons_of_mem _ h)
theorem mB220 : Cond.methodLink RX2 145 yX2_ticksUntilCommitted ∈ wA0 := sB220 _ List.mem_cons_self
theorem sB221 : ∀ w ∈ wB221, w ∈ wA0 := fun w h => sB220 w (List.mem_cons_of_mem _ h)
theorem mB221 : Cond.instanceMethod yX2_ticksUntilCommitted ∈ wA0 := sB221 _ List.mem_cons_self
theorem sB222 : ∀ w ∈ wB222, w ∈ wA0 := fun w h => sB221 w (List.mem_cons_of_mem _ h)
theorem mB222 : Cond.selects RX2 yX2_ticksUntilCommitted yX2_ticksUntilCommitted ∈ wA0 := sB222 _ List.mem_cons_self
theorem sB223 : ∀ w ∈ wB223, w ∈ wA0 := fun w h => sB222 w (List.mem_cons_of_mem _ h)
theorem mB223 : Cond.methodLink RX2 148 yX2_makeCommitted ∈ wA0 := sB223 _ List.mem_cons_self
theorem sB224 : ∀ w ∈ wB224, w ∈ wA0 := fun w h => sB223 w (List.mem_cons_of_mem _ h)
theorem mB224 : Cond.instanceMethod yX2_makeCommitted ∈ wA0 := sB224 _ List.mem_cons_self
theorem sB225 : ∀ w ∈ wB225, w ∈ wA0 := fun w h => sB224 w (List.mem_cons_of_mem _ h)
theorem mB225 : Cond.selects RX2 yX2_makeCommitted yX2_makeCommitted ∈ wA0 := sB225 _ List.mem_cons_self
theorem sB226 : ∀ w ∈ wB226, w ∈ wA0 := fun w h => sB225 w (List.mem_cons_of_mem _ h)
theorem mB226 : Cond.code yX2_advanceBy cX2_advanceBy 5 (some .int) ∈ wA0 := sB226 _ List.mem_cons_self
theorem sB227 : ∀ w ∈ wB227, w ∈ wA0 := fun w h => sB226 w (List.mem_cons_of_mem _ h)
theorem mB227 : Cond.code yX2_synchronizeClock cX2_synchronizeClock 4 (some .int) ∈ wA0 := sB227 _ List.mem_cons_self
theorem sB228 : ∀ w ∈ wB228, w ∈ wA0 := fun w h => sB227 w (List.mem_cons_of_mem _ h)
theorem mB228 : Cond.methodLink RX2 154 yX1_offsetAt ∈ wA0 := sB228 _ List.mem_cons_self
theorem sB229 : ∀ w ∈ wB229, w ∈ wA0 := fun w h => sB228 w (List.mem_cons_of_mem _ h)
theorem mB229 : Cond.methodLink RX2 157 yX1_setOffset ∈ wA0 := sB229 _ List.mem_cons_self
theorem sB230 : ∀ w ∈ wB230, w ∈ wA0 := fun w h => sB229 w (List.mem_cons_of_mem _ h)
theorem mB230 : Cond.instanceMethod yX1_setOffset ∈ wA0 := sB230 _ List.mem_cons_self
theorem sB231 : ∀ w ∈ wB231, w ∈ wA0 := fun w h => sB230 w (List.mem_cons_of_mem _ h)
theorem mB231 : Cond.selects RX1 yX1_setOffset yX1_setOffset ∈ wA0 := sB231 _ List.mem_cons_self
theorem sB232 : ∀ w ∈ wB232, w ∈ wA0 := fun w h => sB231 w (List.mem_cons_of_mem _ h)
theorem mB232 : Cond.methodLink RX2 163 Lib.Math.min.name ∈ wA0 := sB232 _ List.mem_cons_self
theorem sB233 : ∀ w ∈ wB233, w ∈ wA0 := fun w h => sB232 w (List.mem_cons_of_mem _ h)
theorem mB233 : Cond.code yX2_safeTimeNow cX2_safeTimeNow 3 (some .int) ∈ wA0 := sB233 _ List.mem_cons_self
theorem sB234 : ∀ w ∈ wB234, w ∈ wA0 := fun w h => sB233 w (List.mem_cons_of_mem _ h)
theorem mB234 : Cond.methodLink RX2 166 yX1_ticksUntilLatestPasses ∈ wA0 := sB234 _ List.mem_cons_self
theorem sB235 : ∀ w ∈ wB235, w ∈ wA0 := fun w h => sB234 w (List.mem_cons_of_mem _ h)
theorem mB235 : Cond.instanceMethod yX1_ticksUntilLatestPasses ∈ wA0 := sB235 _ List.mem_cons_self
theorem sB236 : ∀ w ∈ wB236, w ∈ wA0 := fun w h => sB235 w (List.mem_cons_of_mem _ h)
theorem mB236 : Cond.selects RX1 yX1_ticksUntilLatestPasses yX1_ticksUntilLatestPasses ∈ wA0 := sB236 _ List.mem_cons_self
theorem sB237 : ∀ w ∈ wB237, w ∈ wA0 := fun w h => sB236 w (List.mem_cons_of_mem _ h)
theorem mB237 : Cond.code yX2_ticksUntilSafeAt cX2_ticksUntilSafeAt 5 (some .int) ∈ wA0 := sB237 _ List.mem_cons_self
theorem sB238 : ∀ w ∈ wB238, w ∈ wA0 := fun w h => sB237 w (List.mem_cons_of_mem _ h)
theorem mB238 : Cond.code yX3_init cX3_init 1 none ∈ wA0 := sB238 _ List.mem_cons_self
theorem sB239 : ∀ w ∈ wB239, w ∈ wA0 := fun w h => sB238 w (List.mem_cons_of_mem _ h)
theorem mB239 : Cond.methodLink RX3 3 objectInit ∈ wA0 := sB239 _ List.mem_cons_self
theorem sB240 : ∀ w ∈ wB240, w ∈ wA0 := fun w h => sB239 w (List.mem_cons_of_mem _ h)
theorem mB240 : Cond.fieldLink RX3 9 "CommitWaitStore$Text" "arguments" "[I" ∈ wA0 := sB240 _ List.mem_cons_self
theorem sB241 : ∀ w ∈ wB241, w ∈ wA0 := fun w h => sB240 w (List.mem_cons_of_mem _ h)
theorem mB241 : Cond.arrayClass .char ∈ wA0 := sB241 _ List.mem_cons_self
theorem sB242 : ∀ w ∈ wB242, w ∈ wA0 := fun w h => sB241 w (List.mem_cons_of_mem _ h)
theorem mB242 : Cond.fieldLink RX3 15 "CommitWaitStore$Text" "characters" "[C" ∈ wA0 := sB242 _ List.mem_cons_self
theorem sB243 : ∀ w ∈ wB243, w ∈ wA0 := fun w h => sB242 w (List.mem_cons_of_mem _ h)
theorem mB243 : Cond.code yX4_isOpen cX4_isOpen 2 (some .boolean) ∈ wA0 := sB243 _ List.mem_cons_self
theorem sB244 : ∀ w ∈ wB244, w ∈ wA0 := fun w h => sB243 w (List.mem_cons_of_mem _ h)
theorem mB244 : Cond.code yX4_findWaitingWriter cX4_findWaitingWriter 3 (some .int) ∈ wA0 := sB244 _ List.mem_cons_self
theorem sB245 : ∀ w ∈ wB245, w ∈ wA0 := fun w h => sB244 w (List.mem_cons_of_mem _ h)
theorem mB245 : Cond.code yX4_replay cX4_replay 6 (some .int) ∈ wA0 := sB245 _ List.mem_cons_self
theorem sB246 : ∀ w ∈ wB246, w ∈ wA0 := fun w h => sB245 w (List.mem_cons_of_mem _ h)
theorem mB246 : Cond.methodLink RX4 69 yX4_bufferOf ∈ wA0 := sB246 _ List.mem_cons_self
theorem sB247 : ∀ w ∈ wB247, w ∈ wA0 := fun w h => sB246 w (List.mem_cons_of_mem _ h)
theorem mB247 : Cond.code yX4_countWithStatus cX4_countWithStatus 4 (some .int) ∈ wA0 := sB247 _ List.mem_cons_self
theorem sB248 : ∀ w ∈ wB248, w ∈ wA0 := fun w h => sB247 w (List.mem_cons_of_mem _ h)
theorem mB248 : Cond.code yX4_sumOfWaits cX4_sumOfWaits 3 (some .int) ∈ wA0 := sB248 _ List.mem_cons_self
theorem sB249 : ∀ w ∈ wB249, w ∈ wA0 := fun w h => sB248 w (List.mem_cons_of_mem _ h)
theorem mB249 : Cond.code yX4_areInverted cX4_areInverted 3 (some .boolean) ∈ wA0 := sB249 _ List.mem_cons_self
theorem sB250 : ∀ w ∈ wB250, w ∈ wA0 := fun w h => sB249 w (List.mem_cons_of_mem _ h)
theorem mB250 : Cond.code yX4_countInversions cX4_countInversions 4 (some .int) ∈ wA0 := sB250 _ List.mem_cons_self
theorem sB251 : ∀ w ∈ wB251, w ∈ wA0 := fun w h => sB250 w (List.mem_cons_of_mem _ h)
theorem mB251 : Cond.methodLink RX4 72 yX4_areInverted ∈ wA0 := sB251 _ List.mem_cons_self
theorem sB252 : ∀ w ∈ wB252, w ∈ wA0 := fun w h => sB251 w (List.mem_cons_of_mem _ h)
theorem mB252 : Cond.instanceMethod yX4_areInverted ∈ wA0 := sB252 _ List.mem_cons_self
theorem sB253 : ∀ w ∈ wB253, w ∈ wA0 := fun w h => sB252 w (List.mem_cons_of_mem _ h)
theorem mB253 : Cond.selects RX4 yX4_areInverted yX4_areInverted ∈ wA0 := sB253 _ List.mem_cons_self
theorem sB254 : ∀ w ∈ wB254, w ∈ wA0 := fun w h => sB253 w (List.mem_cons_of_mem _ h)
theorem mB254 : Cond.code yX5_valueOf cX5_valueOf 4 (some .int) ∈ wA0 := sB254 _ List.mem_cons_self
theorem sB255 : ∀ w ∈ wB255, w ∈ wA0 := fun w h => sB254 w (List.mem_cons_of_mem _ h)
theorem mB255 : Cond.methodLink RX5 27 yX5_newest ∈ wA0 := sB255 _ List.mem_cons_self
theorem sB256 : ∀ w ∈ wB256, w ∈ wA0 := fun w h => sB255 w (List.mem_cons_of_mem _ h)
theorem mB256 : Cond.methodLink RX5 31 yX5_timestampOf ∈ wA0 := sB256 _ List.mem_cons_self
theorem sB257 : ∀ w ∈ wB257, w ∈ wA0 := fun w h => sB256 w (List.mem_cons_of_mem _ h)
theorem mB257 : Cond.methodLink RX5 35 yX5_valueOfVersion ∈ wA0 := sB257 _ List.mem_cons_self
theorem sB258 : ∀ w ∈ wB258, w ∈ wA0 := fun w h => sB257 w (List.mem_cons_of_mem _ h)
theorem mB258 : Cond.methodLink RX6 1 objectInit ∈ wA0 := sB258 _ List.mem_cons_self
theorem sB259 : ∀ w ∈ wB259, w ∈ wA0 := fun w h => sB258 w (List.mem_cons_of_mem _ h)
theorem mB259 : Cond.classLink RX6 7 RX2 ∈ wA0 := sB259 _ List.mem_cons_self
theorem sB260 : ∀ w ∈ wB260, w ∈ wA0 := fun w h => sB259 w (List.mem_cons_of_mem _ h)
theorem mB260 : Cond.fieldLink RX6 10 "CommitWaitStore" "state" "LCommitWaitStore$State;" ∈ wA0 := sB260 _ List.mem_cons_self
theorem sB261 : ∀ w ∈ wB261, w ∈ wA0 := fun w h => sB260 w (List.mem_cons_of_mem _ h)
theorem mB261 : Cond.classLink RX6 16 RX0 ∈ wA0 := sB261 _ List.mem_cons_self
theorem sB262 : ∀ w ∈ wB262, w ∈ wA0 := fun w h => sB261 w (List.mem_cons_of_mem _ h)
theorem mB262 : Cond.instantiable RX0 3 ∈ wA0 := sB262 _ List.mem_cons_self
theorem sB263 : ∀ w ∈ wB263, w ∈ wA0 := fun w h => sB262 w (List.mem_cons_of_mem _ h)
theorem mB263 : Cond.initialized RX0 ∈ wA0 := sB263 _ List.mem_cons_self
theorem sB264 : ∀ w ∈ wB264, w ∈ wA0 := fun w h => sB263 w (List.mem_cons_of_mem _ h)
theorem mB264 : Cond.fieldLink RX6 19 "CommitWaitStore" "saved" "LCommitWaitStore$SavedStates;" ∈ wA0 := sB264 _ List.mem_cons_self
theorem sB265 : ∀ w ∈ wB265, w ∈ wA0 := fun w h => sB264 w (List.mem_cons_of_mem _ h)
theorem mB265 : Cond.fieldLink RX6 23 "CommitWaitStore" "slots" "[LCommitWaitStore$State;" ∈ wA0 := sB265 _ List.mem_cons_self
theorem sB266 : ∀ w ∈ wB266, w ∈ wA0 := fun w h => sB265 w (List.mem_cons_of_mem _ h)
theorem mB266 : Cond.arrayClass .boolean ∈ wA0 := sB266 _ List.mem_cons_self
theorem sB267 : ∀ w ∈ wB267, w ∈ wA0 := fun w h => sB266 w (List.mem_cons_of_mem _ h)
theorem mB267 : Cond.fieldLink RX6 27 "CommitWaitStore" "slotHoldsState" "[Z" ∈ wA0 := sB267 _ List.mem_cons_self
theorem sB268 : ∀ w ∈ wB268, w ∈ wA0 := fun w h => sB267 w (List.mem_cons_of_mem _ h)
theorem mB268 : Cond.classLink RX6 31 RX3 ∈ wA0 := sB268 _ List.mem_cons_self
theorem sB269 : ∀ w ∈ wB269, w ∈ wA0 := fun w h => sB268 w (List.mem_cons_of_mem _ h)
theorem mB269 : Cond.instantiable RX3 5 ∈ wA0 := sB269 _ List.mem_cons_self
theorem sB270 : ∀ w ∈ wB270, w ∈ wA0 := fun w h => sB269 w (List.mem_cons_of_mem _ h)
theorem mB270 : Cond.initialized RX3 ∈ wA0 := sB270 _ List.mem_cons_self
theorem sB271 : ∀ w ∈ wB271, w ∈ wA0 := fun w h => sB270 w (List.mem_cons_of_mem _ h)
theorem mB271 : Cond.fieldLink RX6 34 "CommitWaitStore" "text" "LCommitWaitStore$Text;" ∈ wA0 := sB271 _ List.mem_cons_self
theorem sB272 : ∀ w ∈ wB272, w ∈ wA0 := fun w h => sB271 w (List.mem_cons_of_mem _ h)
theorem mB272 : Cond.methodLink RX6 9 yX2_init ∈ wA0 := sB272 _ List.mem_cons_self
theorem sB273 : ∀ w ∈ wB273, w ∈ wA0 := fun w h => sB272 w (List.mem_cons_of_mem _ h)
theorem mB273 : Cond.methodLink RX6 18 yX0_init ∈ wA0 := sB273 _ List.mem_cons_self
theorem sB274 : ∀ w ∈ wB274, w ∈ wA0 := fun w h => sB273 w (List.mem_cons_of_mem _ h)
theorem mB274 : Cond.instanceMethod yX0_init ∈ wA0 := sB274 _ List.mem_cons_self
theorem sB275 : ∀ w ∈ wB275, w ∈ wA0 := fun w h => sB274 w (List.mem_cons_of_mem _ h)
theorem mB275 : Cond.instanceMethod yX3_init ∈ wA0 := sB275 _ List.mem_cons_self
theorem sB276 : ∀ w ∈ wB276, w ∈ wA0 := fun w h => sB275 w (List.mem_cons_of_mem _ h)
theorem mB276 : Cond.code yX6_init cX6_init 2 none ∈ wA0 := sB276 _ List.mem_cons_self
theorem sB277 : ∀ w ∈ wB277, w ∈ wA0 := fun w h => sB276 w (List.mem_cons_of_mem _ h)
theorem mB277 : Cond.code yX6_requireServer cX6_requireServer 2 none ∈ wA0 := sB277 _ List.mem_cons_self
theorem sB278 : ∀ w ∈ wB278, w ∈ wA0 := fun w h => sB277 w (List.mem_cons_of_mem _ h)
theorem mB278 : Cond.classLink RX6 254 "java/lang/IndexOutOfBoundsException" ∈ wA0 := sB278 _ List.mem_cons_self
theorem sB279 : ∀ w ∈ wB279, w ∈ wA0 := fun w h => sB278 w (List.mem_cons_of_mem _ h)
theorem mB279 : Cond.initialized "java/lang/IndexOutOfBoundsException" ∈ wA0 := sB279 _ List.mem_cons_self
theorem sB280 : ∀ w ∈ wB280, w ∈ wA0 := fun w h => sB279 w (List.mem_cons_of_mem _ h)
theorem mB280 : Cond.classLink RX6 46 "java/lang/IllegalStateException" ∈ wA0 := sB280 _ List.mem_cons_self
theorem sB281 : ∀ w ∈ wB281, w ∈ wA0 := fun w h => sB280 w (List.mem_cons_of_mem _ h)
theorem mB281 : Cond.initialized "java/lang/IllegalStateException" ∈ wA0 := sB281 _ List.mem_cons_self
theorem sB282 : ∀ w ∈ wB282, w ∈ wA0 := fun w h => sB281 w (List.mem_cons_of_mem _ h)
theorem mB282 : Cond.methodLink RX6 38 yX6_requireServer ∈ wA0 := sB282 _ List.mem_cons_self
theorem sB283 : ∀ w ∈ wB283, w ∈ wA0 := fun w h => sB282 w (List.mem_cons_of_mem _ h)
theorem mB283 : Cond.instanceMethod yX6_requireServer ∈ wA0 := sB283 _ List.mem_cons_self
theorem sB284 : ∀ w ∈ wB284, w ∈ wA0 := fun w h => sB283 w (List.mem_cons_of_mem _ h)
theorem mB284 : Cond.selects RX6 yX6_requireServer yX6_requireServer ∈ wA0 := sB284 _ List.mem_cons_self
theorem sB285 : ∀ w ∈ wB285, w ∈ wA0 := fun w h => sB284 w (List.mem_cons_of_mem _ h)
theorem mB285 : Cond.initialized RX6 ∈ wA0 := sB285 _ List.mem_cons_self
theorem sB286 : ∀ w ∈ wB286, w ∈ wA0 := fun w h => sB285 w (List.mem_cons_of_mem _ h)
theorem mB286 : Cond.methodLink RX6 42 yX2_canBegin ∈ wA0 := sB286 _ List.mem_cons_self
theorem sB287 : ∀ w ∈ wB287, w ∈ wA0 := fun w h => sB286 w (List.mem_cons_of_mem _ h)
theorem mB287 : Cond.instanceMethod yX2_canBegin ∈ wA0 := sB287 _ List.mem_cons_self
theorem sB288 : ∀ w ∈ wB288, w ∈ wA0 := fun w h => sB287 w (List.mem_cons_of_mem _ h)
theorem mB288 : Cond.selects RX2 yX2_canBegin yX2_canBegin ∈ wA0 := sB288 _ List.mem_cons_self
theorem sB289 : ∀ w ∈ wB289, w ∈ wA0 := fun w h => sB288 w (List.mem_cons_of_mem _ h)
theorem mB289 : Cond.methodLink RX6 53 yX0_push ∈ wA0 := sB289 _ List.mem_cons_self
theorem sB290 : ∀ w ∈ wB290, w ∈ wA0 := fun w h => sB289 w (List.mem_cons_of_mem _ h)
theorem mB290 : Cond.instanceMethod yX0_push ∈ wA0 := sB290 _ List.mem_cons_self
theorem sB291 : ∀ w ∈ wB291, w ∈ wA0 := fun w h => sB290 w (List.mem_cons_of_mem _ h)
theorem mB291 : Cond.selects RX0 yX0_push yX0_push ∈ wA0 := sB291 _ List.mem_cons_self
theorem sB292 : ∀ w ∈ wB292, w ∈ wA0 := fun w h => sB291 w (List.mem_cons_of_mem _ h)
theorem mB292 : Cond.methodLink RX6 57 yX2_beginAt ∈ wA0 := sB292 _ List.mem_cons_self
theorem sB293 : ∀ w ∈ wB293, w ∈ wA0 := fun w h => sB292 w (List.mem_cons_of_mem _ h)
theorem mB293 : Cond.instanceMethod yX2_beginAt ∈ wA0 := sB293 _ List.mem_cons_self
theorem sB294 : ∀ w ∈ wB294, w ∈ wA0 := fun w h => sB293 w (List.mem_cons_of_mem _ h)
theorem mB294 : Cond.selects RX2 yX2_beginAt yX2_beginAt ∈ wA0 := sB294 _ List.mem_cons_self
theorem sB295 : ∀ w ∈ wB295, w ∈ wA0 := fun w h => sB294 w (List.mem_cons_of_mem _ h)
theorem mB295 : Cond.code yX6_begin cX6_begin 2 (some .int) ∈ wA0 := sB295 _ List.mem_cons_self
theorem sB296 : ∀ w ∈ wB296, w ∈ wA0 := fun w h => sB295 w (List.mem_cons_of_mem _ h)
theorem mB296 : Cond.code yX6_requireTransaction cX6_requireTransaction 2 none ∈ wA0 := sB296 _ List.mem_cons_self
theorem sB297 : ∀ w ∈ wB297, w ∈ wA0 := fun w h => sB296 w (List.mem_cons_of_mem _ h)
theorem mB297 : Cond.fieldLink RX6 185 "CommitWaitStore$State" "transactions" "LCommitWaitStore$Transactions;" ∈ wA0 := sB297 _ List.mem_cons_self
theorem sB298 : ∀ w ∈ wB298, w ∈ wA0 := fun w h => sB297 w (List.mem_cons_of_mem _ h)
theorem mB298 : Cond.fieldLink RX6 225 "CommitWaitStore$Transactions" "begun" "I" ∈ wA0 := sB298 _ List.mem_cons_self
theorem sB299 : ∀ w ∈ wB299, w ∈ wA0 := fun w h => sB298 w (List.mem_cons_of_mem _ h)
theorem mB299 : Cond.code yX6_requireKey cX6_requireKey 2 none ∈ wA0 := sB299 _ List.mem_cons_self
theorem sB300 : ∀ w ∈ wB300, w ∈ wA0 := fun w h => sB299 w (List.mem_cons_of_mem _ h)
theorem mB300 : Cond.code yX6_requireOpen cX6_requireOpen 2 none ∈ wA0 := sB300 _ List.mem_cons_self
theorem sB301 : ∀ w ∈ wB301, w ∈ wA0 := fun w h => sB300 w (List.mem_cons_of_mem _ h)
theorem mB301 : Cond.methodLink RX6 189 yX4_isOpen ∈ wA0 := sB301 _ List.mem_cons_self
theorem sB302 : ∀ w ∈ wB302, w ∈ wA0 := fun w h => sB301 w (List.mem_cons_of_mem _ h)
theorem mB302 : Cond.instanceMethod yX4_isOpen ∈ wA0 := sB302 _ List.mem_cons_self
theorem sB303 : ∀ w ∈ wB303, w ∈ wA0 := fun w h => sB302 w (List.mem_cons_of_mem _ h)
theorem mB303 : Cond.selects RX4 yX4_isOpen yX4_isOpen ∈ wA0 := sB303 _ List.mem_cons_self
theorem sB304 : ∀ w ∈ wB304, w ∈ wA0 := fun w h => sB303 w (List.mem_cons_of_mem _ h)
theorem mB304 : Cond.methodLink RX6 61 yX6_requireTransaction ∈ wA0 := sB304 _ List.mem_cons_self
theorem sB305 : ∀ w ∈ wB305, w ∈ wA0 := fun w h => sB304 w (List.mem_cons_of_mem _ h)
theorem mB305 : Cond.instanceMethod yX6_requireTransaction ∈ wA0 := sB305 _ List.mem_cons_self
theorem sB306 : ∀ w ∈ wB306, w ∈ wA0 := fun w h => sB305 w (List.mem_cons_of_mem _ h)
theorem mB306 : Cond.selects RX6 yX6_requireTransaction yX6_requireTransaction ∈ wA0 := sB306 _ List.mem_cons_self
theorem sB307 : ∀ w ∈ wB307, w ∈ wA0 := fun w h => sB306 w (List.mem_cons_of_mem _ h)
theorem mB307 : Cond.methodLink RX6 64 yX6_requireKey ∈ wA0 := sB307 _ List.mem_cons_self
theorem sB308 : ∀ w ∈ wB308, w ∈ wA0 := fun w h => sB307 w (List.mem_cons_of_mem _ h)
theorem mB308 : Cond.instanceMethod yX6_requireKey ∈ wA0 := sB308 _ List.mem_cons_self
theorem sB309 : ∀ w ∈ wB309, w ∈ wA0 := fun w h => sB308 w (List.mem_cons_of_mem _ h)
theorem mB309 : Cond.selects RX6 yX6_requireKey yX6_requireKey ∈ wA0 := sB309 _ List.mem_cons_self
theorem sB310 : ∀ w ∈ wB310, w ∈ wA0 := fun w h => sB309 w (List.mem_cons_of_mem _ h)
theorem mB310 : Cond.methodLink RX6 67 yX6_requireOpen ∈ wA0 := sB310 _ List.mem_cons_self
theorem sB311 : ∀ w ∈ wB311, w ∈ wA0 := fun w h => sB310 w (List.mem_cons_of_mem _ h)
theorem mB311 : Cond.instanceMethod yX6_requireOpen ∈ wA0 := sB311 _ List.mem_cons_self
theorem sB312 : ∀ w ∈ wB312, w ∈ wA0 := fun w h => sB311 w (List.mem_cons_of_mem _ h)
theorem mB312 : Cond.selects RX6 yX6_requireOpen yX6_requireOpen ∈ wA0 := sB312 _ List.mem_cons_self
theorem sB313 : ∀ w ∈ wB313, w ∈ wA0 := fun w h => sB312 w (List.mem_cons_of_mem _ h)
theorem mB313 : Cond.methodLink RX6 70 yX2_readKey ∈ wA0 := sB313 _ List.mem_cons_self
theorem sB314 : ∀ w ∈ wB314, w ∈ wA0 := fun w h => sB313 w (List.mem_cons_of_mem _ h)
theorem mB314 : Cond.instanceMethod yX2_readKey ∈ wA0 := sB314 _ List.mem_cons_self
theorem sB315 : ∀ w ∈ wB315, w ∈ wA0 := fun w h => sB314 w (List.mem_cons_of_mem _ h)
theorem mB315 : Cond.selects RX2 yX2_readKey yX2_readKey ∈ wA0 := sB315 _ List.mem_cons_self
theorem sB316 : ∀ w ∈ wB316, w ∈ wA0 := fun w h => sB315 w (List.mem_cons_of_mem _ h)
theorem mB316 : Cond.code yX6_read cX6_read 3 (some .int) ∈ wA0 := sB316 _ List.mem_cons_self
theorem sB317 : ∀ w ∈ wB317, w ∈ wA0 := fun w h => sB316 w (List.mem_cons_of_mem _ h)
theorem mB317 : Cond.code yX6_requireRange cX6_requireRange 4 none ∈ wA0 := sB317 _ List.mem_cons_self
theorem sB318 : ∀ w ∈ wB318, w ∈ wA0 := fun w h => sB317 w (List.mem_cons_of_mem _ h)
theorem mB318 : Cond.classLink RX6 291 "java/lang/IllegalArgumentException" ∈ wA0 := sB318 _ List.mem_cons_self
theorem sB319 : ∀ w ∈ wB319, w ∈ wA0 := fun w h => sB318 w (List.mem_cons_of_mem _ h)
theorem mB319 : Cond.initialized "java/lang/IllegalArgumentException" ∈ wA0 := sB319 _ List.mem_cons_self
theorem sB320 : ∀ w ∈ wB320, w ∈ wA0 := fun w h => sB319 w (List.mem_cons_of_mem _ h)
theorem mB320 : Cond.methodLink RX6 74 yX6_requireRange ∈ wA0 := sB320 _ List.mem_cons_self
theorem sB321 : ∀ w ∈ wB321, w ∈ wA0 := fun w h => sB320 w (List.mem_cons_of_mem _ h)
theorem mB321 : Cond.instanceMethod yX6_requireRange ∈ wA0 := sB321 _ List.mem_cons_self
theorem sB322 : ∀ w ∈ wB322, w ∈ wA0 := fun w h => sB321 w (List.mem_cons_of_mem _ h)
theorem mB322 : Cond.selects RX6 yX6_requireRange yX6_requireRange ∈ wA0 := sB322 _ List.mem_cons_self
theorem sB323 : ∀ w ∈ wB323, w ∈ wA0 := fun w h => sB322 w (List.mem_cons_of_mem _ h)
theorem mB323 : Cond.methodLink RX6 78 yX2_writeKey ∈ wA0 := sB323 _ List.mem_cons_self
theorem sB324 : ∀ w ∈ wB324, w ∈ wA0 := fun w h => sB323 w (List.mem_cons_of_mem _ h)
theorem mB324 : Cond.instanceMethod yX2_writeKey ∈ wA0 := sB324 _ List.mem_cons_self
theorem sB325 : ∀ w ∈ wB325, w ∈ wA0 := fun w h => sB324 w (List.mem_cons_of_mem _ h)
theorem mB325 : Cond.selects RX2 yX2_writeKey yX2_writeKey ∈ wA0 := sB325 _ List.mem_cons_self
theorem sB326 : ∀ w ∈ wB326, w ∈ wA0 := fun w h => sB325 w (List.mem_cons_of_mem _ h)
theorem mB326 : Cond.code yX6_write cX6_write 4 (some .int) ∈ wA0 := sB326 _ List.mem_cons_self
theorem sB327 : ∀ w ∈ wB327, w ∈ wA0 := fun w h => sB326 w (List.mem_cons_of_mem _ h)
theorem mB327 : Cond.methodLink RX6 82 yX2_commitOutcome ∈ wA0 := sB327 _ List.mem_cons_self
theorem sB328 : ∀ w ∈ wB328, w ∈ wA0 := fun w h => sB327 w (List.mem_cons_of_mem _ h)
theorem mB328 : Cond.instanceMethod yX2_commitOutcome ∈ wA0 := sB328 _ List.mem_cons_self
theorem sB329 : ∀ w ∈ wB329, w ∈ wA0 := fun w h => sB328 w (List.mem_cons_of_mem _ h)
theorem mB329 : Cond.selects RX2 yX2_commitOutcome yX2_commitOutcome ∈ wA0 := sB329 _ List.mem_cons_self
theorem sB330 : ∀ w ∈ wB330, w ∈ wA0 := fun w h => sB329 w (List.mem_cons_of_mem _ h)
theorem mB330 : Cond.methodLink RX6 85 yX2_carryOut ∈ wA0 := sB330 _ List.mem_cons_self
theorem sB331 : ∀ w ∈ wB331, w ∈ wA0 := fun w h => sB330 w (List.mem_cons_of_mem _ h)
theorem mB331 : Cond.instanceMethod yX2_carryOut ∈ wA0 := sB331 _ List.mem_cons_self
theorem sB332 : ∀ w ∈ wB332, w ∈ wA0 := fun w h => sB331 w (List.mem_cons_of_mem _ h)
theorem mB332 : Cond.selects RX2 yX2_carryOut yX2_carryOut ∈ wA0 := sB332 _ List.mem_cons_self
theorem sB333 : ∀ w ∈ wB333, w ∈ wA0 := fun w h => sB332 w (List.mem_cons_of_mem _ h)
theorem mB333 : Cond.code yX6_commit cX6_commit 3 (some .int) ∈ wA0 := sB333 _ List.mem_cons_self
theorem sB334 : ∀ w ∈ wB334, w ∈ wA0 := fun w h => sB333 w (List.mem_cons_of_mem _ h)
theorem mB334 : Cond.methodLink RX6 89 yX2_makeAborted ∈ wA0 := sB334 _ List.mem_cons_self
theorem sB335 : ∀ w ∈ wB335, w ∈ wA0 := fun w h => sB334 w (List.mem_cons_of_mem _ h)
theorem mB335 : Cond.code yX6_abort cX6_abort 2 (some .int) ∈ wA0 := sB335 _ List.mem_cons_self
theorem sB336 : ∀ w ∈ wB336, w ∈ wA0 := fun w h => sB335 w (List.mem_cons_of_mem _ h)
theorem mB336 : Cond.methodLink RX6 92 yX2_canAdvance ∈ wA0 := sB336 _ List.mem_cons_self
theorem sB337 : ∀ w ∈ wB337, w ∈ wA0 := fun w h => sB336 w (List.mem_cons_of_mem _ h)
theorem mB337 : Cond.instanceMethod yX2_canAdvance ∈ wA0 := sB337 _ List.mem_cons_self
theorem sB338 : ∀ w ∈ wB338, w ∈ wA0 := fun w h => sB337 w (List.mem_cons_of_mem _ h)
theorem mB338 : Cond.selects RX2 yX2_canAdvance yX2_canAdvance ∈ wA0 := sB338 _ List.mem_cons_self
theorem sB339 : ∀ w ∈ wB339, w ∈ wA0 := fun w h => sB338 w (List.mem_cons_of_mem _ h)
theorem mB339 : Cond.methodLink RX6 98 yX2_advanceBy ∈ wA0 := sB339 _ List.mem_cons_self
theorem sB340 : ∀ w ∈ wB340, w ∈ wA0 := fun w h => sB339 w (List.mem_cons_of_mem _ h)
theorem mB340 : Cond.instanceMethod yX2_advanceBy ∈ wA0 := sB340 _ List.mem_cons_self
theorem sB341 : ∀ w ∈ wB341, w ∈ wA0 := fun w h => sB340 w (List.mem_cons_of_mem _ h)
theorem mB341 : Cond.selects RX2 yX2_advanceBy yX2_advanceBy ∈ wA0 := sB341 _ List.mem_cons_self
theorem sB342 : ∀ w ∈ wB342, w ∈ wA0 := fun w h => sB341 w (List.mem_cons_of_mem _ h)
theorem mB342 : Cond.code yX6_advance cX6_advance 2 (some .int) ∈ wA0 := sB342 _ List.mem_cons_self
theorem sB343 : ∀ w ∈ wB343, w ∈ wA0 := fun w h => sB342 w (List.mem_cons_of_mem _ h)
theorem mB343 : Cond.methodLink RX6 101 yX2_synchronizeClock ∈ wA0 := sB343 _ List.mem_cons_self
theorem sB344 : ∀ w ∈ wB344, w ∈ wA0 := fun w h => sB343 w (List.mem_cons_of_mem _ h)
theorem mB344 : Cond.instanceMethod yX2_synchronizeClock ∈ wA0 := sB344 _ List.mem_cons_self
theorem sB345 : ∀ w ∈ wB345, w ∈ wA0 := fun w h => sB344 w (List.mem_cons_of_mem _ h)
theorem mB345 : Cond.selects RX2 yX2_synchronizeClock yX2_synchronizeClock ∈ wA0 := sB345 _ List.mem_cons_self
theorem sB346 : ∀ w ∈ wB346, w ∈ wA0 := fun w h => sB345 w (List.mem_cons_of_mem _ h)
theorem mB346 : Cond.code yX6_synchronize cX6_synchronize 3 (some .int) ∈ wA0 := sB346 _ List.mem_cons_self
theorem sB347 : ∀ w ∈ wB347, w ∈ wA0 := fun w h => sB346 w (List.mem_cons_of_mem _ h)
theorem mB347 : Cond.fieldLink RX6 104 "CommitWaitStore$State" "servers" "[LCommitWaitStore$Server;" ∈ wA0 := sB347 _ List.mem_cons_self
theorem sB348 : ∀ w ∈ wB348, w ∈ wA0 := fun w h => sB347 w (List.mem_cons_of_mem _ h)
theorem mB348 : Cond.fieldLink RX6 108 "CommitWaitStore$State" "trueTime" "I" ∈ wA0 := sB348 _ List.mem_cons_self
theorem sB349 : ∀ w ∈ wB349, w ∈ wA0 := fun w h => sB348 w (List.mem_cons_of_mem _ h)
theorem mB349 : Cond.methodLink RX6 112 yX1_changeDrift ∈ wA0 := sB349 _ List.mem_cons_self
theorem sB350 : ∀ w ∈ wB350, w ∈ wA0 := fun w h => sB349 w (List.mem_cons_of_mem _ h)
theorem mB350 : Cond.instanceMethod yX1_changeDrift ∈ wA0 := sB350 _ List.mem_cons_self
theorem sB351 : ∀ w ∈ wB351, w ∈ wA0 := fun w h => sB350 w (List.mem_cons_of_mem _ h)
theorem mB351 : Cond.selects RX1 yX1_changeDrift yX1_changeDrift ∈ wA0 := sB351 _ List.mem_cons_self
theorem sB352 : ∀ w ∈ wB352, w ∈ wA0 := fun w h => sB351 w (List.mem_cons_of_mem _ h)
theorem mB352 : Cond.code yX6_setDrift cX6_setDrift 3 (some .int) ∈ wA0 := sB352 _ List.mem_cons_self
theorem sB353 : ∀ w ∈ wB353, w ∈ wA0 := fun w h => sB352 w (List.mem_cons_of_mem _ h)
theorem mB353 : Cond.methodLink RX6 117 yX1_changeUncertainty ∈ wA0 := sB353 _ List.mem_cons_self
theorem sB354 : ∀ w ∈ wB354, w ∈ wA0 := fun w h => sB353 w (List.mem_cons_of_mem _ h)
theorem mB354 : Cond.instanceMethod yX1_changeUncertainty ∈ wA0 := sB354 _ List.mem_cons_self
theorem sB355 : ∀ w ∈ wB355, w ∈ wA0 := fun w h => sB354 w (List.mem_cons_of_mem _ h)
theorem mB355 : Cond.selects RX1 yX1_changeUncertainty yX1_changeUncertainty ∈ wA0 := sB355 _ List.mem_cons_self
theorem sB356 : ∀ w ∈ wB356, w ∈ wA0 := fun w h => sB355 w (List.mem_cons_of_mem _ h)
theorem mB356 : Cond.methodLink RX6 120 yX1_uncertaintyAt ∈ wA0 := sB356 _ List.mem_cons_self
theorem sB357 : ∀ w ∈ wB357, w ∈ wA0 := fun w h => sB356 w (List.mem_cons_of_mem _ h)
theorem mB357 : Cond.code yX6_setUncertainty cX6_setUncertainty 4 (some .int) ∈ wA0 := sB357 _ List.mem_cons_self
theorem sB358 : ∀ w ∈ wB358, w ∈ wA0 := fun w h => sB357 w (List.mem_cons_of_mem _ h)
theorem mB358 : Cond.code yX6_requireNotNegative cX6_requireNotNegative 2 none ∈ wA0 := sB358 _ List.mem_cons_self
theorem sB359 : ∀ w ∈ wB359, w ∈ wA0 := fun w h => sB358 w (List.mem_cons_of_mem _ h)
theorem mB359 : Cond.fieldLink RX6 132 "CommitWaitStore$State" "readFloor" "I" ∈ wA0 := sB359 _ List.mem_cons_self
theorem sB360 : ∀ w ∈ wB360, w ∈ wA0 := fun w h => sB359 w (List.mem_cons_of_mem _ h)
theorem mB360 : Cond.methodLink RX6 135 Lib.Math.max.name ∈ wA0 := sB360 _ List.mem_cons_self
theorem sB361 : ∀ w ∈ wB361, w ∈ wA0 := fun w h => sB360 w (List.mem_cons_of_mem _ h)
theorem mB361 : Cond.fieldLink RX6 140 "CommitWaitStore$State" "versions" "LCommitWaitStore$Versions;" ∈ wA0 := sB361 _ List.mem_cons_self
theorem sB362 : ∀ w ∈ wB362, w ∈ wA0 := fun w h => sB361 w (List.mem_cons_of_mem _ h)
theorem mB362 : Cond.methodLink RX6 123 yX6_requireNotNegative ∈ wA0 := sB362 _ List.mem_cons_self
theorem sB363 : ∀ w ∈ wB363, w ∈ wA0 := fun w h => sB362 w (List.mem_cons_of_mem _ h)
theorem mB363 : Cond.instanceMethod yX6_requireNotNegative ∈ wA0 := sB363 _ List.mem_cons_self
theorem sB364 : ∀ w ∈ wB364, w ∈ wA0 := fun w h => sB363 w (List.mem_cons_of_mem _ h)
theorem mB364 : Cond.selects RX6 yX6_requireNotNegative yX6_requireNotNegative ∈ wA0 := sB364 _ List.mem_cons_self
theorem sB365 : ∀ w ∈ wB365, w ∈ wA0 := fun w h => sB364 w (List.mem_cons_of_mem _ h)
theorem mB365 : Cond.methodLink RX6 126 yX2_safeTimeNow ∈ wA0 := sB365 _ List.mem_cons_self
theorem sB366 : ∀ w ∈ wB366, w ∈ wA0 := fun w h => sB365 w (List.mem_cons_of_mem _ h)
theorem mB366 : Cond.instanceMethod yX2_safeTimeNow ∈ wA0 := sB366 _ List.mem_cons_self
theorem sB367 : ∀ w ∈ wB367, w ∈ wA0 := fun w h => sB366 w (List.mem_cons_of_mem _ h)
theorem mB367 : Cond.selects RX2 yX2_safeTimeNow yX2_safeTimeNow ∈ wA0 := sB367 _ List.mem_cons_self
theorem sB368 : ∀ w ∈ wB368, w ∈ wA0 := fun w h => sB367 w (List.mem_cons_of_mem _ h)
theorem mB368 : Cond.methodLink RX6 144 yX5_valueOf ∈ wA0 := sB368 _ List.mem_cons_self
theorem sB369 : ∀ w ∈ wB369, w ∈ wA0 := fun w h => sB368 w (List.mem_cons_of_mem _ h)
theorem mB369 : Cond.instanceMethod yX5_valueOf ∈ wA0 := sB369 _ List.mem_cons_self
theorem sB370 : ∀ w ∈ wB370, w ∈ wA0 := fun w h => sB369 w (List.mem_cons_of_mem _ h)
theorem mB370 : Cond.selects RX5 yX5_valueOf yX5_valueOf ∈ wA0 := sB370 _ List.mem_cons_self
theorem sB371 : ∀ w ∈ wB371, w ∈ wA0 := fun w h => sB370 w (List.mem_cons_of_mem _ h)
theorem mB371 : Cond.code yX6_snapshotRead cX6_snapshotRead 3 (some .int) ∈ wA0 := sB371 _ List.mem_cons_self
theorem sB372 : ∀ w ∈ wB372, w ∈ wA0 := fun w h => sB371 w (List.mem_cons_of_mem _ h)
theorem mB372 : Cond.code yX6_trueTime cX6_trueTime 1 (some .int) ∈ wA0 := sB372 _ List.mem_cons_self
theorem sB373 : ∀ w ∈ wB373, w ∈ wA0 := fun w h => sB372 w (List.mem_cons_of_mem _ h)
theorem mB373 : Cond.code yX6_reading cX6_reading 2 (some .int) ∈ wA0 := sB373 _ List.mem_cons_self
theorem sB374 : ∀ w ∈ wB374, w ∈ wA0 := fun w h => sB373 w (List.mem_cons_of_mem _ h)
theorem mB374 : Cond.methodLink RX6 210 yX1_offsetAt ∈ wA0 := sB374 _ List.mem_cons_self
theorem sB375 : ∀ w ∈ wB375, w ∈ wA0 := fun w h => sB374 w (List.mem_cons_of_mem _ h)
theorem mB375 : Cond.methodLink RX6 213 yX1_earliestAt ∈ wA0 := sB375 _ List.mem_cons_self
theorem sB376 : ∀ w ∈ wB376, w ∈ wA0 := fun w h => sB375 w (List.mem_cons_of_mem _ h)
theorem mB376 : Cond.code yX6_earliest cX6_earliest 2 (some .int) ∈ wA0 := sB376 _ List.mem_cons_self
theorem sB377 : ∀ w ∈ wB377, w ∈ wA0 := fun w h => sB376 w (List.mem_cons_of_mem _ h)
theorem mB377 : Cond.methodLink RX6 216 yX1_latestAt ∈ wA0 := sB377 _ List.mem_cons_self
theorem sB378 : ∀ w ∈ wB378, w ∈ wA0 := fun w h => sB377 w (List.mem_cons_of_mem _ h)
theorem mB378 : Cond.code yX6_latest cX6_latest 2 (some .int) ∈ wA0 := sB378 _ List.mem_cons_self
theorem sB379 : ∀ w ∈ wB379, w ∈ wA0 := fun w h => sB378 w (List.mem_cons_of_mem _ h)
theorem mB379 : Cond.methodLink RX6 219 yX1_isSoundAt ∈ wA0 := sB379 _ List.mem_cons_self
theorem sB380 : ∀ w ∈ wB380, w ∈ wA0 := fun w h => sB379 w (List.mem_cons_of_mem _ h)
theorem mB380 : Cond.code yX6_isSound cX6_isSound 2 (some .boolean) ∈ wA0 := sB380 _ List.mem_cons_self
theorem sB381 : ∀ w ∈ wB381, w ∈ wA0 := fun w h => sB380 w (List.mem_cons_of_mem _ h)
theorem mB381 : Cond.code yX6_transactions cX6_transactions 1 (some .int) ∈ wA0 := sB381 _ List.mem_cons_self
theorem sB382 : ∀ w ∈ wB382, w ∈ wA0 := fun w h => sB381 w (List.mem_cons_of_mem _ h)
theorem mB382 : Cond.code yX6_state cX6_state 2 (some .int) ∈ wA0 := sB382 _ List.mem_cons_self
theorem sB383 : ∀ w ∈ wB383, w ∈ wA0 := fun w h => sB382 w (List.mem_cons_of_mem _ h)
theorem mB383 : Cond.fieldLink RX6 228 "CommitWaitStore$Transactions" "status" "[I" ∈ wA0 := sB383 _ List.mem_cons_self
theorem sB384 : ∀ w ∈ wB384, w ∈ wA0 := fun w h => sB383 w (List.mem_cons_of_mem _ h)
theorem mB384 : Cond.code yX6_timestamp cX6_timestamp 2 (some .int) ∈ wA0 := sB384 _ List.mem_cons_self
theorem sB385 : ∀ w ∈ wB385, w ∈ wA0 := fun w h => sB384 w (List.mem_cons_of_mem _ h)
theorem mB385 : Cond.fieldLink RX6 231 "CommitWaitStore$Transactions" "timestamp" "[I" ∈ wA0 := sB385 _ List.mem_cons_self
theorem sB386 : ∀ w ∈ wB386, w ∈ wA0 := fun w h => sB385 w (List.mem_cons_of_mem _ h)
theorem mB386 : Cond.code yX6_requestTime cX6_requestTime 2 (some .int) ∈ wA0 := sB386 _ List.mem_cons_self
theorem sB387 : ∀ w ∈ wB387, w ∈ wA0 := fun w h => sB386 w (List.mem_cons_of_mem _ h)
theorem mB387 : Cond.fieldLink RX6 234 "CommitWaitStore$Transactions" "requestTime" "[I" ∈ wA0 := sB387 _ List.mem_cons_self
theorem sB388 : ∀ w ∈ wB388, w ∈ wA0 := fun w h => sB387 w (List.mem_cons_of_mem _ h)
theorem mB388 : Cond.code yX6_commitTime cX6_commitTime 2 (some .int) ∈ wA0 := sB388 _ List.mem_cons_self
theorem sB389 : ∀ w ∈ wB389, w ∈ wA0 := fun w h => sB388 w (List.mem_cons_of_mem _ h)
theorem mB389 : Cond.fieldLink RX6 237 "CommitWaitStore$Transactions" "commitTime" "[I" ∈ wA0 := sB389 _ List.mem_cons_self
theorem sB390 : ∀ w ∈ wB390, w ∈ wA0 := fun w h => sB389 w (List.mem_cons_of_mem _ h)
theorem mB390 : Cond.code yX6_bufferedValue cX6_bufferedValue 3 (some .int) ∈ wA0 := sB390 _ List.mem_cons_self
theorem sB391 : ∀ w ∈ wB391, w ∈ wA0 := fun w h => sB390 w (List.mem_cons_of_mem _ h)
theorem mB391 : Cond.methodLink RX6 240 yX4_bufferOf ∈ wA0 := sB391 _ List.mem_cons_self
theorem sB392 : ∀ w ∈ wB392, w ∈ wA0 := fun w h => sB391 w (List.mem_cons_of_mem _ h)
theorem mB392 : Cond.methodLink RX6 243 yX4_recordedVersion ∈ wA0 := sB392 _ List.mem_cons_self
theorem sB393 : ∀ w ∈ wB393, w ∈ wA0 := fun w h => sB392 w (List.mem_cons_of_mem _ h)
theorem mB393 : Cond.methodLink RX6 246 yX5_timestampOf ∈ wA0 := sB393 _ List.mem_cons_self
theorem sB394 : ∀ w ∈ wB394, w ∈ wA0 := fun w h => sB393 w (List.mem_cons_of_mem _ h)
theorem mB394 : Cond.code yX6_recordedTimestamp cX6_recordedTimestamp 4 (some .int) ∈ wA0 := sB394 _ List.mem_cons_self
theorem sB395 : ∀ w ∈ wB395, w ∈ wA0 := fun w h => sB394 w (List.mem_cons_of_mem _ h)
theorem mB395 : Cond.code yX6_ifCommitted cX6_ifCommitted 2 (some .int) ∈ wA0 := sB395 _ List.mem_cons_self
theorem sB396 : ∀ w ∈ wB396, w ∈ wA0 := fun w h => sB395 w (List.mem_cons_of_mem _ h)
theorem mB396 : Cond.methodLink RX6 249 yX2_ticksUntilCommitted ∈ wA0 := sB396 _ List.mem_cons_self
theorem sB397 : ∀ w ∈ wB397, w ∈ wA0 := fun w h => sB396 w (List.mem_cons_of_mem _ h)
theorem mB397 : Cond.code yX6_ticksToCommit cX6_ticksToCommit 3 (some .int) ∈ wA0 := sB397 _ List.mem_cons_self
theorem sB398 : ∀ w ∈ wB398, w ∈ wA0 := fun w h => sB397 w (List.mem_cons_of_mem _ h)
theorem mB398 : Cond.code yX6_versions cX6_versions 2 (some .int) ∈ wA0 := sB398 _ List.mem_cons_self
theorem sB399 : ∀ w ∈ wB399, w ∈ wA0 := fun w h => sB398 w (List.mem_cons_of_mem _ h)
theorem mB399 : Cond.fieldLink RX6 252 "CommitWaitStore$Versions" "count" "[I" ∈ wA0 := sB399 _ List.mem_cons_self
theorem sB400 : ∀ w ∈ wB400, w ∈ wA0 := fun w h => sB399 w (List.mem_cons_of_mem _ h)
theorem mB400 : Cond.code yX6_versionTimestamp cX6_versionTimestamp 3 (some .int) ∈ wA0 := sB400 _ List.mem_cons_self
theorem sB401 : ∀ w ∈ wB401, w ∈ wA0 := fun w h => sB400 w (List.mem_cons_of_mem _ h)
theorem mB401 : Cond.code yX6_valueAt cX6_valueAt 3 (some .int) ∈ wA0 := sB401 _ List.mem_cons_self
theorem sB402 : ∀ w ∈ wB402, w ∈ wA0 := fun w h => sB401 w (List.mem_cons_of_mem _ h)
theorem mB402 : Cond.methodLink RX6 259 yX4_replay ∈ wA0 := sB402 _ List.mem_cons_self
theorem sB403 : ∀ w ∈ wB403, w ∈ wA0 := fun w h => sB402 w (List.mem_cons_of_mem _ h)
theorem mB403 : Cond.instanceMethod yX4_replay ∈ wA0 := sB403 _ List.mem_cons_self
theorem sB404 : ∀ w ∈ wB404, w ∈ wA0 := fun w h => sB403 w (List.mem_cons_of_mem _ h)
theorem mB404 : Cond.selects RX4 yX4_replay yX4_replay ∈ wA0 := sB404 _ List.mem_cons_self
theorem sB405 : ∀ w ∈ wB405, w ∈ wA0 := fun w h => sB404 w (List.mem_cons_of_mem _ h)
theorem mB405 : Cond.code yX6_replayedValueAt cX6_replayedValueAt 3 (some .int) ∈ wA0 := sB405 _ List.mem_cons_self
theorem sB406 : ∀ w ∈ wB406, w ∈ wA0 := fun w h => sB405 w (List.mem_cons_of_mem _ h)
theorem mB406 : Cond.code yX6_waitingWriter cX6_waitingWriter 2 (some .int) ∈ wA0 := sB406 _ List.mem_cons_self
theorem sB407 : ∀ w ∈ wB407, w ∈ wA0 := fun w h => sB406 w (List.mem_cons_of_mem _ h)
theorem mB407 : Cond.methodLink RX6 262 yX4_findWaitingWriter ∈ wA0 := sB407 _ List.mem_cons_self
theorem sB408 : ∀ w ∈ wB408, w ∈ wA0 := fun w h => sB407 w (List.mem_cons_of_mem _ h)
theorem mB408 : Cond.instanceMethod yX4_findWaitingWriter ∈ wA0 := sB408 _ List.mem_cons_self
theorem sB409 : ∀ w ∈ wB409, w ∈ wA0 := fun w h => sB408 w (List.mem_cons_of_mem _ h)
theorem mB409 : Cond.selects RX4 yX4_findWaitingWriter yX4_findWaitingWriter ∈ wA0 := sB409 _ List.mem_cons_self
theorem sB410 : ∀ w ∈ wB410, w ∈ wA0 := fun w h => sB409 w (List.mem_cons_of_mem _ h)
theorem mB410 : Cond.methodLink RX6 265 yX4_greatestReaderTimestamp ∈ wA0 := sB410 _ List.mem_cons_self
theorem sB411 : ∀ w ∈ wB411, w ∈ wA0 := fun w h => sB410 w (List.mem_cons_of_mem _ h)
theorem mB411 : Cond.code yX6_readerMark cX6_readerMark 2 (some .int) ∈ wA0 := sB411 _ List.mem_cons_self
theorem sB412 : ∀ w ∈ wB412, w ∈ wA0 := fun w h => sB411 w (List.mem_cons_of_mem _ h)
theorem mB412 : Cond.code yX6_safeTime cX6_safeTime 1 (some .int) ∈ wA0 := sB412 _ List.mem_cons_self
theorem sB413 : ∀ w ∈ wB413, w ∈ wA0 := fun w h => sB412 w (List.mem_cons_of_mem _ h)
theorem mB413 : Cond.code yX6_readFloor cX6_readFloor 1 (some .int) ∈ wA0 := sB413 _ List.mem_cons_self
theorem sB414 : ∀ w ∈ wB414, w ∈ wA0 := fun w h => sB413 w (List.mem_cons_of_mem _ h)
theorem mB414 : Cond.methodLink RX6 268 yX2_ticksUntilSafeAt ∈ wA0 := sB414 _ List.mem_cons_self
theorem sB415 : ∀ w ∈ wB415, w ∈ wA0 := fun w h => sB414 w (List.mem_cons_of_mem _ h)
theorem mB415 : Cond.instanceMethod yX2_ticksUntilSafeAt ∈ wA0 := sB415 _ List.mem_cons_self
theorem sB416 : ∀ w ∈ wB416, w ∈ wA0 := fun w h => sB415 w (List.mem_cons_of_mem _ h)
theorem mB416 : Cond.selects RX2 yX2_ticksUntilSafeAt yX2_ticksUntilSafeAt ∈ wA0 := sB416 _ List.mem_cons_self
theorem sB417 : ∀ w ∈ wB417, w ∈ wA0 := fun w h => sB416 w (List.mem_cons_of_mem _ h)
theorem mB417 : Cond.code yX6_ticksUntilSafe cX6_ticksUntilSafe 3 (some .int) ∈ wA0 := sB417 _ List.mem_cons_self
theorem sB418 : ∀ w ∈ wB418, w ∈ wA0 := fun w h => sB417 w (List.mem_cons_of_mem _ h)
theorem mB418 : Cond.code yX6_countInState cX6_countInState 2 (some .int) ∈ wA0 := sB418 _ List.mem_cons_self
theorem sB419 : ∀ w ∈ wB419, w ∈ wA0 := fun w h => sB418 w (List.mem_cons_of_mem _ h)
theorem mB419 : Cond.methodLink RX6 271 yX4_countWithStatus ∈ wA0 := sB419 _ List.mem_cons_self
theorem sB420 : ∀ w ∈ wB420, w ∈ wA0 := fun w h => sB419 w (List.mem_cons_of_mem _ h)
theorem mB420 : Cond.instanceMethod yX4_countWithStatus ∈ wA0 := sB420 _ List.mem_cons_self
theorem sB421 : ∀ w ∈ wB421, w ∈ wA0 := fun w h => sB420 w (List.mem_cons_of_mem _ h)
theorem mB421 : Cond.selects RX4 yX4_countWithStatus yX4_countWithStatus ∈ wA0 := sB421 _ List.mem_cons_self
theorem sB422 : ∀ w ∈ wB422, w ∈ wA0 := fun w h => sB421 w (List.mem_cons_of_mem _ h)
theorem mB422 : Cond.code yX6_totalWait cX6_totalWait 1 (some .int) ∈ wA0 := sB422 _ List.mem_cons_self
theorem sB423 : ∀ w ∈ wB423, w ∈ wA0 := fun w h => sB422 w (List.mem_cons_of_mem _ h)
theorem mB423 : Cond.methodLink RX6 274 yX4_sumOfWaits ∈ wA0 := sB423 _ List.mem_cons_self
theorem sB424 : ∀ w ∈ wB424, w ∈ wA0 := fun w h => sB423 w (List.mem_cons_of_mem _ h)
theorem mB424 : Cond.instanceMethod yX4_sumOfWaits ∈ wA0 := sB424 _ List.mem_cons_self
theorem sB425 : ∀ w ∈ wB425, w ∈ wA0 := fun w h => sB424 w (List.mem_cons_of_mem _ h)
theorem mB425 : Cond.selects RX4 yX4_sumOfWaits yX4_sumOfWaits ∈ wA0 := sB425 _ List.mem_cons_self
theorem sB426 : ∀ w ∈ wB426, w ∈ wA0 := fun w h => sB425 w (List.mem_cons_of_mem _ h)
theorem mB426 : Cond.code yX6_unsoundUses cX6_unsoundUses 1 (some .int) ∈ wA0 := sB426 _ List.mem_cons_self
theorem sB427 : ∀ w ∈ wB427, w ∈ wA0 := fun w h => sB426 w (List.mem_cons_of_mem _ h)
theorem mB427 : Cond.fieldLink RX6 277 "CommitWaitStore$State" "unsoundUses" "I" ∈ wA0 := sB427 _ List.mem_cons_self
theorem sB428 : ∀ w ∈ wB428, w ∈ wA0 := fun w h => sB427 w (List.mem_cons_of_mem _ h)
theorem mB428 : Cond.code yX6_inversions cX6_inversions 1 (some .int) ∈ wA0 := sB428 _ List.mem_cons_self
theorem sB429 : ∀ w ∈ wB429, w ∈ wA0 := fun w h => sB428 w (List.mem_cons_of_mem _ h)
theorem mB429 : Cond.methodLink RX6 280 yX4_countInversions ∈ wA0 := sB429 _ List.mem_cons_self
theorem sB430 : ∀ w ∈ wB430, w ∈ wA0 := fun w h => sB429 w (List.mem_cons_of_mem _ h)
theorem mB430 : Cond.instanceMethod yX4_countInversions ∈ wA0 := sB430 _ List.mem_cons_self
theorem sB431 : ∀ w ∈ wB431, w ∈ wA0 := fun w h => sB430 w (List.mem_cons_of_mem _ h)
theorem mB431 : Cond.selects RX4 yX4_countInversions yX4_countInversions ∈ wA0 := sB431 _ List.mem_cons_self
theorem sB432 : ∀ w ∈ wB432, w ∈ wA0 := fun w h => sB431 w (List.mem_cons_of_mem _ h)
theorem mB432 : Cond.code yX6_savedStates cX6_savedStates 1 (some .int) ∈ wA0 := sB432 _ List.mem_cons_self
theorem sB433 : ∀ w ∈ wB433, w ∈ wA0 := fun w h => sB432 w (List.mem_cons_of_mem _ h)
theorem mB433 : Cond.fieldLink RX6 194 "CommitWaitStore$SavedStates" "count" "I" ∈ wA0 := sB433 _ List.mem_cons_self
theorem sB434 : ∀ w ∈ wB434, w ∈ wA0 := fun w h => sB433 w (List.mem_cons_of_mem _ h)
theorem mB434 : Cond.code yJ9_max_7cf53 cJ9_max_7cf53 2 (some .int) ∈ wA0 := sB434 _ List.mem_cons_self
theorem sB435 : ∀ w ∈ wB435, w ∈ wA0 := fun w h => sB434 w (List.mem_cons_of_mem _ h)
theorem mB435 : Cond.code yJ9_min_7cf53 cJ9_min_7cf53 2 (some .int) ∈ wA0 := sB435 _ List.mem_cons_self
theorem sB436 : ∀ w ∈ wB436, w ∈ wA0 := fun w h => sB435 w (List.mem_cons_of_mem _ h)
theorem mB436 : Cond.code yL_cell cL_cell 2 (some .int) ∈ wA0 := sB436 _ List.mem_cons_self
theorem sB437 : ∀ w ∈ wB437, w ∈ wA0 := fun w h => sB436 w (List.mem_cons_of_mem _ h)
theorem mB437 : Cond.code yL_low cL_low 2 (some .int) ∈ wA0 := sB437 _ List.mem_cons_self
theorem sB438 : ∀ w ∈ wB438, w ∈ wA0 := fun w h => sB437 w (List.mem_cons_of_mem _ h)
theorem mB438 : Cond.constant RL 7 (2147483647) ∈ wA0 := sB438 _ List.mem_cons_self
theorem sB439 : ∀ w ∈ wB439, w ∈ wA0 := fun w h => sB438 w (List.mem_cons_of_mem _ h)
theorem mB439 : Cond.classLink RL 14 "java/lang/IllegalStateException" ∈ wA0 := sB439 _ List.mem_cons_self
theorem sB440 : ∀ w ∈ wB440, w ∈ wA0 := fun w h => sB439 w (List.mem_cons_of_mem _ h)
theorem mB440 : Cond.constant RL 16 (-1000000) ∈ wA0 := sB440 _ List.mem_cons_self
theorem sB441 : ∀ w ∈ wB441, w ∈ wA0 := fun w h => sB440 w (List.mem_cons_of_mem _ h)
theorem mB441 : Cond.methodLink RL 8 yX6_begin ∈ wA0 := sB441 _ List.mem_cons_self
theorem sB442 : ∀ w ∈ wB442, w ∈ wA0 := fun w h => sB441 w (List.mem_cons_of_mem _ h)
theorem mB442 : Cond.instanceMethod yX6_begin ∈ wA0 := sB442 _ List.mem_cons_self
theorem sB443 : ∀ w ∈ wB443, w ∈ wA0 := fun w h => sB442 w (List.mem_cons_of_mem _ h)
theorem mB443 : Cond.selects RX6 yX6_begin yX6_begin ∈ wA0 := sB443 _ List.mem_cons_self
theorem sB444 : ∀ w ∈ wB444, w ∈ wA0 := fun w h => sB443 w (List.mem_cons_of_mem _ h)
theorem mB444 : Cond.codeWith yL_begins cL_begins 3 (some .int) [(0, 5, 6, 14)] ∈ wA0 := sB444 _ List.mem_cons_self
theorem sB445 : ∀ w ∈ wB445, w ∈ wA0 := fun w h => sB444 w (List.mem_cons_of_mem _ h)
theorem mB445 : Cond.methodLink RL 17 yX6_read ∈ wA0 := sB445 _ List.mem_cons_self
theorem sB446 : ∀ w ∈ wB446, w ∈ wA0 := fun w h => sB445 w (List.mem_cons_of_mem _ h)
theorem mB446 : Cond.instanceMethod yX6_read ∈ wA0 := sB446 _ List.mem_cons_self
theorem sB447 : ∀ w ∈ wB447, w ∈ wA0 := fun w h => sB446 w (List.mem_cons_of_mem _ h)
theorem mB447 : Cond.selects RX6 yX6_read yX6_read ∈ wA0 := sB447 _ List.mem_cons_self
theorem sB448 : ∀ w ∈ wB448, w ∈ wA0 := fun w h => sB447 w (List.mem_cons_of_mem _ h)
theorem mB448 : Cond.codeWith yL_reads cL_reads 4 (some .int) [(0, 6, 7, 14)] ∈ wA0 := sB448 _ List.mem_cons_self
theorem sB449 : ∀ w ∈ wB449, w ∈ wA0 := fun w h => sB448 w (List.mem_cons_of_mem _ h)
theorem mB449 : Cond.methodLink RL 21 yX6_write ∈ wA0 := sB449 _ List.mem_cons_self
theorem sB450 : ∀ w ∈ wB450, w ∈ wA0 := fun w h => sB449 w (List.mem_cons_of_mem _ h)
theorem mB450 : Cond.instanceMethod yX6_write ∈ wA0 := sB450 _ List.mem_cons_self
theorem sB451 : ∀ w ∈ wB451, w ∈ wA0 := fun w h => sB450 w (List.mem_cons_of_mem _ h)
theorem mB451 : Cond.selects RX6 yX6_write yX6_write ∈ wA0 := sB451 _ List.mem_cons_self
theorem sB452 : ∀ w ∈ wB452, w ∈ wA0 := fun w h => sB451 w (List.mem_cons_of_mem _ h)
theorem mB452 : Cond.codeWith yL_writes cL_writes 5 (some .int) [(0, 7, 8, 14)] ∈ wA0 := sB452 _ List.mem_cons_self
theorem sB453 : ∀ w ∈ wB453, w ∈ wA0 := fun w h => sB452 w (List.mem_cons_of_mem _ h)
theorem mB453 : Cond.methodLink RL 25 yX6_commit ∈ wA0 := sB453 _ List.mem_cons_self
theorem sB454 : ∀ w ∈ wB454, w ∈ wA0 := fun w h => sB453 w (List.mem_cons_of_mem _ h)
theorem mB454 : Cond.instanceMethod yX6_commit ∈ wA0 := sB454 _ List.mem_cons_self
theorem sB455 : ∀ w ∈ wB455, w ∈ wA0 := fun w h => sB454 w (List.mem_cons_of_mem _ h)
theorem mB455 : Cond.selects RX6 yX6_commit yX6_commit ∈ wA0 := sB455 _ List.mem_cons_self
theorem sB456 : ∀ w ∈ wB456, w ∈ wA0 := fun w h => sB455 w (List.mem_cons_of_mem _ h)
theorem mB456 : Cond.codeWith yL_commits cL_commits 3 (some .int) [(0, 5, 6, 14)] ∈ wA0 := sB456 _ List.mem_cons_self
theorem sB457 : ∀ w ∈ wB457, w ∈ wA0 := fun w h => sB456 w (List.mem_cons_of_mem _ h)
theorem mB457 : Cond.methodLink RL 28 yX6_abort ∈ wA0 := sB457 _ List.mem_cons_self
theorem sB458 : ∀ w ∈ wB458, w ∈ wA0 := fun w h => sB457 w (List.mem_cons_of_mem _ h)
theorem mB458 : Cond.instanceMethod yX6_abort ∈ wA0 := sB458 _ List.mem_cons_self
theorem sB459 : ∀ w ∈ wB459, w ∈ wA0 := fun w h => sB458 w (List.mem_cons_of_mem _ h)
theorem mB459 : Cond.selects RX6 yX6_abort yX6_abort ∈ wA0 := sB459 _ List.mem_cons_self
theorem sB460 : ∀ w ∈ wB460, w ∈ wA0 := fun w h => sB459 w (List.mem_cons_of_mem _ h)
theorem mB460 : Cond.codeWith yL_aborts cL_aborts 3 (some .int) [(0, 5, 6, 14)] ∈ wA0 := sB460 _ List.mem_cons_self
theorem sB461 : ∀ w ∈ wB461, w ∈ wA0 := fun w h => sB460 w (List.mem_cons_of_mem _ h)
theorem mB461 : Cond.methodLink RL 31 yX6_snapshotRead ∈ wA0 := sB461 _ List.mem_cons_self
theorem sB462 : ∀ w ∈ wB462, w ∈ wA0 := fun w h => sB461 w (List.mem_cons_of_mem _ h)
theorem mB462 : Cond.instanceMethod yX6_snapshotRead ∈ wA0 := sB462 _ List.mem_cons_self
theorem sB463 : ∀ w ∈ wB463, w ∈ wA0 := fun w h => sB462 w (List.mem_cons_of_mem _ h)
theorem mB463 : Cond.selects RX6 yX6_snapshotRead yX6_snapshotRead ∈ wA0 := sB463 _ List.mem_cons_self
theorem sB464 : ∀ w ∈ wB464, w ∈ wA0 := fun w h => sB463 w (List.mem_cons_of_mem _ h)
theorem mB464 : Cond.codeWith yL_snapshots cL_snapshots 4 (some .int) [(0, 6, 7, 14)] ∈ wA0 := sB464 _ List.mem_cons_self
theorem sB465 : ∀ w ∈ wB465, w ∈ wA0 := fun w h => sB464 w (List.mem_cons_of_mem _ h)
theorem mB465 : Cond.code yL_newestBelow cL_newestBelow 6 (some .int) ∈ wA0 := sB465 _ List.mem_cons_self
theorem sB466 : ∀ w ∈ wB466, w ∈ wA0 := fun w h => sB465 w (List.mem_cons_of_mem _ h)
theorem mB466 : Cond.methodLink RL 34 yX6_versions ∈ wA0 := sB466 _ List.mem_cons_self
theorem sB467 : ∀ w ∈ wB467, w ∈ wA0 := fun w h => sB466 w (List.mem_cons_of_mem _ h)
theorem mB467 : Cond.instanceMethod yX6_versions ∈ wA0 := sB467 _ List.mem_cons_self
theorem sB468 : ∀ w ∈ wB468, w ∈ wA0 := fun w h => sB467 w (List.mem_cons_of_mem _ h)
theorem mB468 : Cond.selects RX6 yX6_versions yX6_versions ∈ wA0 := sB468 _ List.mem_cons_self
theorem sB469 : ∀ w ∈ wB469, w ∈ wA0 := fun w h => sB468 w (List.mem_cons_of_mem _ h)
theorem mB469 : Cond.methodLink RL 37 yX6_versionTimestamp ∈ wA0 := sB469 _ List.mem_cons_self
theorem sB470 : ∀ w ∈ wB470, w ∈ wA0 := fun w h => sB469 w (List.mem_cons_of_mem _ h)
theorem mB470 : Cond.instanceMethod yX6_versionTimestamp ∈ wA0 := sB470 _ List.mem_cons_self
theorem sB471 : ∀ w ∈ wB471, w ∈ wA0 := fun w h => sB470 w (List.mem_cons_of_mem _ h)
theorem mB471 : Cond.selects RX6 yX6_versionTimestamp yX6_versionTimestamp ∈ wA0 := sB471 _ List.mem_cons_self
theorem sB472 : ∀ w ∈ wB472, w ∈ wA0 := fun w h => sB471 w (List.mem_cons_of_mem _ h)
theorem mB472 : Cond.methodLink RL 40 yX6_valueAt ∈ wA0 := sB472 _ List.mem_cons_self
theorem sB473 : ∀ w ∈ wB473, w ∈ wA0 := fun w h => sB472 w (List.mem_cons_of_mem _ h)
theorem mB473 : Cond.instanceMethod yX6_valueAt ∈ wA0 := sB473 _ List.mem_cons_self
theorem sB474 : ∀ w ∈ wB474, w ∈ wA0 := fun w h => sB473 w (List.mem_cons_of_mem _ h)
theorem mB474 : Cond.selects RX6 yX6_valueAt yX6_valueAt ∈ wA0 := sB474 _ List.mem_cons_self
theorem sB475 : ∀ w ∈ wB475, w ∈ wA0 := fun w h => sB474 w (List.mem_cons_of_mem _ h)
theorem mB475 : Cond.methodLink RL 43 yX6_replayedValueAt ∈ wA0 := sB475 _ List.mem_cons_self
theorem sB476 : ∀ w ∈ wB476, w ∈ wA0 := fun w h => sB475 w (List.mem_cons_of_mem _ h)
theorem mB476 : Cond.instanceMethod yX6_replayedValueAt ∈ wA0 := sB476 _ List.mem_cons_self
theorem sB477 : ∀ w ∈ wB477, w ∈ wA0 := fun w h => sB476 w (List.mem_cons_of_mem _ h)
theorem mB477 : Cond.selects RX6 yX6_replayedValueAt yX6_replayedValueAt ∈ wA0 := sB477 _ List.mem_cons_self
theorem sB478 : ∀ w ∈ wB478, w ∈ wA0 := fun w h => sB477 w (List.mem_cons_of_mem _ h)
theorem mB478 : Cond.code yL_areVersions cL_areVersions 6 (some .boolean) ∈ wA0 := sB478 _ List.mem_cons_self
theorem sB479 : ∀ w ∈ wB479, w ∈ wA0 := fun w h => sB478 w (List.mem_cons_of_mem _ h)
theorem mB479 : Cond.methodLink RL 46 yX6_state ∈ wA0 := sB479 _ List.mem_cons_self
theorem sB480 : ∀ w ∈ wB480, w ∈ wA0 := fun w h => sB479 w (List.mem_cons_of_mem _ h)
theorem mB480 : Cond.instanceMethod yX6_state ∈ wA0 := sB480 _ List.mem_cons_self
theorem sB481 : ∀ w ∈ wB481, w ∈ wA0 := fun w h => sB480 w (List.mem_cons_of_mem _ h)
theorem mB481 : Cond.selects RX6 yX6_state yX6_state ∈ wA0 := sB481 _ List.mem_cons_self
theorem sB482 : ∀ w ∈ wB482, w ∈ wA0 := fun w h => sB481 w (List.mem_cons_of_mem _ h)
theorem mB482 : Cond.methodLink RL 49 yX6_timestamp ∈ wA0 := sB482 _ List.mem_cons_self
theorem sB483 : ∀ w ∈ wB483, w ∈ wA0 := fun w h => sB482 w (List.mem_cons_of_mem _ h)
theorem mB483 : Cond.instanceMethod yX6_timestamp ∈ wA0 := sB483 _ List.mem_cons_self
theorem sB484 : ∀ w ∈ wB484, w ∈ wA0 := fun w h => sB483 w (List.mem_cons_of_mem _ h)
theorem mB484 : Cond.selects RX6 yX6_timestamp yX6_timestamp ∈ wA0 := sB484 _ List.mem_cons_self
theorem sB485 : ∀ w ∈ wB485, w ∈ wA0 := fun w h => sB484 w (List.mem_cons_of_mem _ h)
theorem mB485 : Cond.methodLink RL 52 yX6_requestTime ∈ wA0 := sB485 _ List.mem_cons_self
theorem sB486 : ∀ w ∈ wB486, w ∈ wA0 := fun w h => sB485 w (List.mem_cons_of_mem _ h)
theorem mB486 : Cond.instanceMethod yX6_requestTime ∈ wA0 := sB486 _ List.mem_cons_self
theorem sB487 : ∀ w ∈ wB487, w ∈ wA0 := fun w h => sB486 w (List.mem_cons_of_mem _ h)
theorem mB487 : Cond.selects RX6 yX6_requestTime yX6_requestTime ∈ wA0 := sB487 _ List.mem_cons_self
theorem sB488 : ∀ w ∈ wB488, w ∈ wA0 := fun w h => sB487 w (List.mem_cons_of_mem _ h)
theorem mB488 : Cond.methodLink RL 55 yX6_commitTime ∈ wA0 := sB488 _ List.mem_cons_self
theorem sB489 : ∀ w ∈ wB489, w ∈ wA0 := fun w h => sB488 w (List.mem_cons_of_mem _ h)
theorem mB489 : Cond.instanceMethod yX6_commitTime ∈ wA0 := sB489 _ List.mem_cons_self
theorem sB490 : ∀ w ∈ wB490, w ∈ wA0 := fun w h => sB489 w (List.mem_cons_of_mem _ h)
theorem mB490 : Cond.selects RX6 yX6_commitTime yX6_commitTime ∈ wA0 := sB490 _ List.mem_cons_self
theorem sB491 : ∀ w ∈ wB491, w ∈ wA0 := fun w h => sB490 w (List.mem_cons_of_mem _ h)
theorem mB491 : Cond.methodLink RL 58 yX6_recordedTimestamp ∈ wA0 := sB491 _ List.mem_cons_self
theorem sB492 : ∀ w ∈ wB492, w ∈ wA0 := fun w h => sB491 w (List.mem_cons_of_mem _ h)
theorem mB492 : Cond.instanceMethod yX6_recordedTimestamp ∈ wA0 := sB492 _ List.mem_cons_self
theorem sB493 : ∀ w ∈ wB493, w ∈ wA0 := fun w h => sB492 w (List.mem_cons_of_mem _ h)
theorem mB493 : Cond.selects RX6 yX6_recordedTimestamp yX6_recordedTimestamp ∈ wA0 := sB493 _ List.mem_cons_self
theorem sB494 : ∀ w ∈ wB494, w ∈ wA0 := fun w h => sB493 w (List.mem_cons_of_mem _ h)
theorem mB494 : Cond.methodLink RL 61 yX6_bufferedValue ∈ wA0 := sB494 _ List.mem_cons_self
theorem sB495 : ∀ w ∈ wB495, w ∈ wA0 := fun w h => sB494 w (List.mem_cons_of_mem _ h)
theorem mB495 : Cond.instanceMethod yX6_bufferedValue ∈ wA0 := sB495 _ List.mem_cons_self
theorem sB496 : ∀ w ∈ wB496, w ∈ wA0 := fun w h => sB495 w (List.mem_cons_of_mem _ h)
theorem mB496 : Cond.selects RX6 yX6_bufferedValue yX6_bufferedValue ∈ wA0 := sB496 _ List.mem_cons_self
theorem sB497 : ∀ w ∈ wB497, w ∈ wA0 := fun w h => sB496 w (List.mem_cons_of_mem _ h)
theorem mB497 : Cond.methodLink RL 64 yL_newestBelow ∈ wA0 := sB497 _ List.mem_cons_self
theorem sB498 : ∀ w ∈ wB498, w ∈ wA0 := fun w h => sB497 w (List.mem_cons_of_mem _ h)
theorem mB498 : Cond.static yL_newestBelow ∈ wA0 := sB498 _ List.mem_cons_self
theorem sB499 : ∀ w ∈ wB499, w ∈ wA0 := fun w h => sB498 w (List.mem_cons_of_mem _ h)
theorem mB499 : Cond.initialized RL ∈ wA0 := sB499 _ List.mem_cons_self
theorem sB500 : ∀ w ∈ wB500, w ∈ wA0 := fun w h => sB499 w (List.mem_cons_of_mem _ h)
theorem mB500 : Cond.methodLink RL 70 yX6_readerMark ∈ wA0 := sB500 _ List.mem_cons_self
theorem sB501 : ∀ w ∈ wB501, w ∈ wA0 := fun w h => sB500 w (List.mem_cons_of_mem _ h)
theorem mB501 : Cond.instanceMethod yX6_readerMark ∈ wA0 := sB501 _ List.mem_cons_self
theorem sB502 : ∀ w ∈ wB502, w ∈ wA0 := fun w h => sB501 w (List.mem_cons_of_mem _ h)
theorem mB502 : Cond.selects RX6 yX6_readerMark yX6_readerMark ∈ wA0 := sB502 _ List.mem_cons_self
theorem sB503 : ∀ w ∈ wB503, w ∈ wA0 := fun w h => sB502 w (List.mem_cons_of_mem _ h)
theorem mB503 : Cond.methodLink RL 73 yX6_waitingWriter ∈ wA0 := sB503 _ List.mem_cons_self
theorem sB504 : ∀ w ∈ wB504, w ∈ wA0 := fun w h => sB503 w (List.mem_cons_of_mem _ h)
theorem mB504 : Cond.instanceMethod yX6_waitingWriter ∈ wA0 := sB504 _ List.mem_cons_self
theorem sB505 : ∀ w ∈ wB505, w ∈ wA0 := fun w h => sB504 w (List.mem_cons_of_mem _ h)
theorem mB505 : Cond.selects RX6 yX6_waitingWriter yX6_waitingWriter ∈ wA0 := sB505 _ List.mem_cons_self
theorem sB506 : ∀ w ∈ wB506, w ∈ wA0 := fun w h => sB505 w (List.mem_cons_of_mem _ h)
theorem mB506 : Cond.methodLink RL 76 yX6_safeTime ∈ wA0 := sB506 _ List.mem_cons_self
theorem sB507 : ∀ w ∈ wB507, w ∈ wA0 := fun w h => sB506 w (List.mem_cons_of_mem _ h)
theorem mB507 : Cond.instanceMethod yX6_safeTime ∈ wA0 := sB507 _ List.mem_cons_self
theorem sB508 : ∀ w ∈ wB508, w ∈ wA0 := fun w h => sB507 w (List.mem_cons_of_mem _ h)
theorem mB508 : Cond.selects RX6 yX6_safeTime yX6_safeTime ∈ wA0 := sB508 _ List.mem_cons_self
theorem sB509 : ∀ w ∈ wB509, w ∈ wA0 := fun w h => sB508 w (List.mem_cons_of_mem _ h)
theorem mB509 : Cond.methodLink RL 80 yX6_ticksToCommit ∈ wA0 := sB509 _ List.mem_cons_self
theorem sB510 : ∀ w ∈ wB510, w ∈ wA0 := fun w h => sB509 w (List.mem_cons_of_mem _ h)
theorem mB510 : Cond.instanceMethod yX6_ticksToCommit ∈ wA0 := sB510 _ List.mem_cons_self
theorem sB511 : ∀ w ∈ wB511, w ∈ wA0 := fun w h => sB510 w (List.mem_cons_of_mem _ h)
theorem mB511 : Cond.selects RX6 yX6_ticksToCommit yX6_ticksToCommit ∈ wA0 := sB511 _ List.mem_cons_self
theorem sB512 : ∀ w ∈ wB512, w ∈ wA0 := fun w h => sB511 w (List.mem_cons_of_mem _ h)
theorem mB512 : Cond.code yL_isOne cL_isOne 9 (some .boolean) ∈ wA0 := sB512 _ List.mem_cons_self
theorem sB513 : ∀ w ∈ wB513, w ∈ wA0 := fun w h => sB512 w (List.mem_cons_of_mem _ h)
theorem mB513 : Cond.methodLink RL 83 yX6_transactions ∈ wA0 := sB513 _ List.mem_cons_self
theorem sB514 : ∀ w ∈ wB514, w ∈ wA0 := fun w h => sB513 w (List.mem_cons_of_mem _ h)
theorem mB514 : Cond.instanceMethod yX6_transactions ∈ wA0 := sB514 _ List.mem_cons_self
theorem sB515 : ∀ w ∈ wB515, w ∈ wA0 := fun w h => sB514 w (List.mem_cons_of_mem _ h)
theorem mB515 : Cond.selects RX6 yX6_transactions yX6_transactions ∈ wA0 := sB515 _ List.mem_cons_self
theorem sB516 : ∀ w ∈ wB516, w ∈ wA0 := fun w h => sB515 w (List.mem_cons_of_mem _ h)
theorem mB516 : Cond.methodLink RL 86 yL_isOne ∈ wA0 := sB516 _ List.mem_cons_self
theorem sB517 : ∀ w ∈ wB517, w ∈ wA0 := fun w h => sB516 w (List.mem_cons_of_mem _ h)
theorem mB517 : Cond.static yL_isOne ∈ wA0 := sB517 _ List.mem_cons_self
theorem sB518 : ∀ w ∈ wB518, w ∈ wA0 := fun w h => sB517 w (List.mem_cons_of_mem _ h)
theorem mB518 : Cond.methodLink RL 90 yX6_unsoundUses ∈ wA0 := sB518 _ List.mem_cons_self
theorem sB519 : ∀ w ∈ wB519, w ∈ wA0 := fun w h => sB518 w (List.mem_cons_of_mem _ h)
theorem mB519 : Cond.instanceMethod yX6_unsoundUses ∈ wA0 := sB519 _ List.mem_cons_self
theorem sB520 : ∀ w ∈ wB520, w ∈ wA0 := fun w h => sB519 w (List.mem_cons_of_mem _ h)
theorem mB520 : Cond.selects RX6 yX6_unsoundUses yX6_unsoundUses ∈ wA0 := sB520 _ List.mem_cons_self
theorem sB521 : ∀ w ∈ wB521, w ∈ wA0 := fun w h => sB520 w (List.mem_cons_of_mem _ h)
theorem mB521 : Cond.methodLink RL 93 yL_areVersions ∈ wA0 := sB521 _ List.mem_cons_self
theorem sB522 : ∀ w ∈ wB522, w ∈ wA0 := fun w h => sB521 w (List.mem_cons_of_mem _ h)
theorem mB522 : Cond.static yL_areVersions ∈ wA0 := sB522 _ List.mem_cons_self
theorem sB523 : ∀ w ∈ wB523, w ∈ wA0 := fun w h => sB522 w (List.mem_cons_of_mem _ h)
theorem mB523 : Cond.methodLink RL 97 yX6_totalWait ∈ wA0 := sB523 _ List.mem_cons_self
theorem sB524 : ∀ w ∈ wB524, w ∈ wA0 := fun w h => sB523 w (List.mem_cons_of_mem _ h)
theorem mB524 : Cond.instanceMethod yX6_totalWait ∈ wA0 := sB524 _ List.mem_cons_self
theorem sB525 : ∀ w ∈ wB525, w ∈ wA0 := fun w h => sB524 w (List.mem_cons_of_mem _ h)
theorem mB525 : Cond.selects RX6 yX6_totalWait yX6_totalWait ∈ wA0 := sB525 _ List.mem_cons_self
theorem sB526 : ∀ w ∈ wB526, w ∈ wA0 := fun w h => sB525 w (List.mem_cons_of_mem _ h)
theorem mB526 : Cond.methodLink RL 100 yX6_countInState ∈ wA0 := sB526 _ List.mem_cons_self
theorem sB527 : ∀ w ∈ wB527, w ∈ wA0 := fun w h => sB526 w (List.mem_cons_of_mem _ h)
theorem mB527 : Cond.instanceMethod yX6_countInState ∈ wA0 := sB527 _ List.mem_cons_self
theorem sB528 : ∀ w ∈ wB528, w ∈ wA0 := fun w h => sB527 w (List.mem_cons_of_mem _ h)
theorem mB528 : Cond.selects RX6 yX6_countInState yX6_countInState ∈ wA0 := sB528 _ List.mem_cons_self
theorem sB529 : ∀ w ∈ wB529, w ∈ wA0 := fun w h => sB528 w (List.mem_cons_of_mem _ h)
theorem mB529 : Cond.methodLink RL 103 yX6_inversions ∈ wA0 := sB529 _ List.mem_cons_self
theorem sB530 : ∀ w ∈ wB530, w ∈ wA0 := fun w h => sB529 w (List.mem_cons_of_mem _ h)
theorem mB530 : Cond.instanceMethod yX6_inversions ∈ wA0 := sB530 _ List.mem_cons_self
theorem sB531 : ∀ w ∈ wB531, w ∈ wA0 := fun w h => sB530 w (List.mem_cons_of_mem _ h)
theorem mB531 : Cond.selects RX6 yX6_inversions yX6_inversions ∈ wA0 := sB531 _ List.mem_cons_self
theorem sB532 : ∀ w ∈ wB532, w ∈ wA0 := fun w h => sB531 w (List.mem_cons_of_mem _ h)
theorem mB532 : Cond.methodLink RL 106 yX6_readFloor ∈ wA0 := sB532 _ List.mem_cons_self
theorem sB533 : ∀ w ∈ wB533, w ∈ wA0 := fun w h => sB532 w (List.mem_cons_of_mem _ h)
theorem mB533 : Cond.instanceMethod yX6_readFloor ∈ wA0 := sB533 _ List.mem_cons_self
theorem sB534 : ∀ w ∈ wB534, w ∈ wA0 := fun w h => sB533 w (List.mem_cons_of_mem _ h)
theorem mB534 : Cond.selects RX6 yX6_readFloor yX6_readFloor ∈ wA0 := sB534 _ List.mem_cons_self
theorem sB535 : ∀ w ∈ wB535, w ∈ wA0 := fun w h => sB534 w (List.mem_cons_of_mem _ h)
theorem mB535 : Cond.code yL_areAll cL_areAll 6 (some .boolean) ∈ wA0 := sB535 _ List.mem_cons_self
theorem sB536 : ∀ w ∈ wB536, w ∈ wA0 := fun w h => sB535 w (List.mem_cons_of_mem _ h)
theorem mB536 : Cond.constant RL 116 (2000000000) ∈ wA0 := sB536 _ List.mem_cons_self
theorem sB537 : ∀ w ∈ wB537, w ∈ wA0 := fun w h => sB536 w (List.mem_cons_of_mem _ h)
theorem mB537 : Cond.methodLink RL 109 yL_low ∈ wA0 := sB537 _ List.mem_cons_self
theorem sB538 : ∀ w ∈ wB538, w ∈ wA0 := fun w h => sB537 w (List.mem_cons_of_mem _ h)
theorem mB538 : Cond.static yL_low ∈ wA0 := sB538 _ List.mem_cons_self
theorem sB539 : ∀ w ∈ wB539, w ∈ wA0 := fun w h => sB538 w (List.mem_cons_of_mem _ h)
theorem mB539 : Cond.methodLink RL 112 yL_begins ∈ wA0 := sB539 _ List.mem_cons_self
theorem sB540 : ∀ w ∈ wB540, w ∈ wA0 := fun w h => sB539 w (List.mem_cons_of_mem _ h)
theorem mB540 : Cond.static yL_begins ∈ wA0 := sB540 _ List.mem_cons_self
theorem sB541 : ∀ w ∈ wB541, w ∈ wA0 := fun w h => sB540 w (List.mem_cons_of_mem _ h)
theorem mB541 : Cond.methodLink RL 117 yL_reads ∈ wA0 := sB541 _ List.mem_cons_self
theorem sB542 : ∀ w ∈ wB542, w ∈ wA0 := fun w h => sB541 w (List.mem_cons_of_mem _ h)
theorem mB542 : Cond.static yL_reads ∈ wA0 := sB542 _ List.mem_cons_self
theorem sB543 : ∀ w ∈ wB543, w ∈ wA0 := fun w h => sB542 w (List.mem_cons_of_mem _ h)
theorem mB543 : Cond.methodLink RL 120 yL_writes ∈ wA0 := sB543 _ List.mem_cons_self
theorem sB544 : ∀ w ∈ wB544, w ∈ wA0 := fun w h => sB543 w (List.mem_cons_of_mem _ h)
theorem mB544 : Cond.static yL_writes ∈ wA0 := sB544 _ List.mem_cons_self
theorem sB545 : ∀ w ∈ wB545, w ∈ wA0 := fun w h => sB544 w (List.mem_cons_of_mem _ h)
theorem mB545 : Cond.methodLink RL 124 yX6_ifCommitted ∈ wA0 := sB545 _ List.mem_cons_self
theorem sB546 : ∀ w ∈ wB546, w ∈ wA0 := fun w h => sB545 w (List.mem_cons_of_mem _ h)
theorem mB546 : Cond.instanceMethod yX6_ifCommitted ∈ wA0 := sB546 _ List.mem_cons_self
theorem sB547 : ∀ w ∈ wB547, w ∈ wA0 := fun w h => sB546 w (List.mem_cons_of_mem _ h)
theorem mB547 : Cond.selects RX6 yX6_ifCommitted yX6_ifCommitted ∈ wA0 := sB547 _ List.mem_cons_self
theorem sB548 : ∀ w ∈ wB548, w ∈ wA0 := fun w h => sB547 w (List.mem_cons_of_mem _ h)
theorem mB548 : Cond.methodLink RL 127 yL_commits ∈ wA0 := sB548 _ List.mem_cons_self
theorem sB549 : ∀ w ∈ wB549, w ∈ wA0 := fun w h => sB548 w (List.mem_cons_of_mem _ h)
theorem mB549 : Cond.static yL_commits ∈ wA0 := sB549 _ List.mem_cons_self
theorem sB550 : ∀ w ∈ wB550, w ∈ wA0 := fun w h => sB549 w (List.mem_cons_of_mem _ h)
theorem mB550 : Cond.methodLink RL 130 yL_aborts ∈ wA0 := sB550 _ List.mem_cons_self
theorem sB551 : ∀ w ∈ wB551, w ∈ wA0 := fun w h => sB550 w (List.mem_cons_of_mem _ h)
theorem mB551 : Cond.static yL_aborts ∈ wA0 := sB551 _ List.mem_cons_self
theorem sB552 : ∀ w ∈ wB552, w ∈ wA0 := fun w h => sB551 w (List.mem_cons_of_mem _ h)
theorem mB552 : Cond.methodLink RL 133 yX6_trueTime ∈ wA0 := sB552 _ List.mem_cons_self
theorem sB553 : ∀ w ∈ wB553, w ∈ wA0 := fun w h => sB552 w (List.mem_cons_of_mem _ h)
theorem mB553 : Cond.instanceMethod yX6_trueTime ∈ wA0 := sB553 _ List.mem_cons_self
theorem sB554 : ∀ w ∈ wB554, w ∈ wA0 := fun w h => sB553 w (List.mem_cons_of_mem _ h)
theorem mB554 : Cond.selects RX6 yX6_trueTime yX6_trueTime ∈ wA0 := sB554 _ List.mem_cons_self
theorem sB555 : ∀ w ∈ wB555, w ∈ wA0 := fun w h => sB554 w (List.mem_cons_of_mem _ h)
theorem mB555 : Cond.methodLink RL 136 yX6_advance ∈ wA0 := sB555 _ List.mem_cons_self
theorem sB556 : ∀ w ∈ wB556, w ∈ wA0 := fun w h => sB555 w (List.mem_cons_of_mem _ h)
theorem mB556 : Cond.instanceMethod yX6_advance ∈ wA0 := sB556 _ List.mem_cons_self
theorem sB557 : ∀ w ∈ wB557, w ∈ wA0 := fun w h => sB556 w (List.mem_cons_of_mem _ h)
theorem mB557 : Cond.selects RX6 yX6_advance yX6_advance ∈ wA0 := sB557 _ List.mem_cons_self
theorem sB558 : ∀ w ∈ wB558, w ∈ wA0 := fun w h => sB557 w (List.mem_cons_of_mem _ h)
theorem mB558 : Cond.code yL_does cL_does 11 (some .boolean) ∈ wA0 := sB558 _ List.mem_cons_self
theorem sB559 : ∀ w ∈ wB559, w ∈ wA0 := fun w h => sB558 w (List.mem_cons_of_mem _ h)
theorem mB559 : Cond.methodLink RL 139 yX6_reading ∈ wA0 := sB559 _ List.mem_cons_self
theorem sB560 : ∀ w ∈ wB560, w ∈ wA0 := fun w h => sB559 w (List.mem_cons_of_mem _ h)
theorem mB560 : Cond.instanceMethod yX6_reading ∈ wA0 := sB560 _ List.mem_cons_self
theorem sB561 : ∀ w ∈ wB561, w ∈ wA0 := fun w h => sB560 w (List.mem_cons_of_mem _ h)
theorem mB561 : Cond.selects RX6 yX6_reading yX6_reading ∈ wA0 := sB561 _ List.mem_cons_self
theorem sB562 : ∀ w ∈ wB562, w ∈ wA0 := fun w h => sB561 w (List.mem_cons_of_mem _ h)
theorem mB562 : Cond.methodLink RL 142 yX6_synchronize ∈ wA0 := sB562 _ List.mem_cons_self
theorem sB563 : ∀ w ∈ wB563, w ∈ wA0 := fun w h => sB562 w (List.mem_cons_of_mem _ h)
theorem mB563 : Cond.instanceMethod yX6_synchronize ∈ wA0 := sB563 _ List.mem_cons_self
theorem sB564 : ∀ w ∈ wB564, w ∈ wA0 := fun w h => sB563 w (List.mem_cons_of_mem _ h)
theorem mB564 : Cond.selects RX6 yX6_synchronize yX6_synchronize ∈ wA0 := sB564 _ List.mem_cons_self
theorem sB565 : ∀ w ∈ wB565, w ∈ wA0 := fun w h => sB564 w (List.mem_cons_of_mem _ h)
theorem mB565 : Cond.methodLink RL 145 yX6_setDrift ∈ wA0 := sB565 _ List.mem_cons_self
theorem sB566 : ∀ w ∈ wB566, w ∈ wA0 := fun w h => sB565 w (List.mem_cons_of_mem _ h)
theorem mB566 : Cond.instanceMethod yX6_setDrift ∈ wA0 := sB566 _ List.mem_cons_self
theorem sB567 : ∀ w ∈ wB567, w ∈ wA0 := fun w h => sB566 w (List.mem_cons_of_mem _ h)
theorem mB567 : Cond.selects RX6 yX6_setDrift yX6_setDrift ∈ wA0 := sB567 _ List.mem_cons_self
theorem sB568 : ∀ w ∈ wB568, w ∈ wA0 := fun w h => sB567 w (List.mem_cons_of_mem _ h)
theorem mB568 : Cond.methodLink RL 148 yX6_setUncertainty ∈ wA0 := sB568 _ List.mem_cons_self
theorem sB569 : ∀ w ∈ wB569, w ∈ wA0 := fun w h => sB568 w (List.mem_cons_of_mem _ h)
theorem mB569 : Cond.instanceMethod yX6_setUncertainty ∈ wA0 := sB569 _ List.mem_cons_self
theorem sB570 : ∀ w ∈ wB570, w ∈ wA0 := fun w h => sB569 w (List.mem_cons_of_mem _ h)
theorem mB570 : Cond.selects RX6 yX6_setUncertainty yX6_setUncertainty ∈ wA0 := sB570 _ List.mem_cons_self
theorem sB571 : ∀ w ∈ wB571, w ∈ wA0 := fun w h => sB570 w (List.mem_cons_of_mem _ h)
theorem mB571 : Cond.methodLink RL 151 yX6_latest ∈ wA0 := sB571 _ List.mem_cons_self
theorem sB572 : ∀ w ∈ wB572, w ∈ wA0 := fun w h => sB571 w (List.mem_cons_of_mem _ h)
theorem mB572 : Cond.instanceMethod yX6_latest ∈ wA0 := sB572 _ List.mem_cons_self
theorem sB573 : ∀ w ∈ wB573, w ∈ wA0 := fun w h => sB572 w (List.mem_cons_of_mem _ h)
theorem mB573 : Cond.selects RX6 yX6_latest yX6_latest ∈ wA0 := sB573 _ List.mem_cons_self
theorem sB574 : ∀ w ∈ wB574, w ∈ wA0 := fun w h => sB573 w (List.mem_cons_of_mem _ h)
theorem mB574 : Cond.methodLink RL 154 yX6_earliest ∈ wA0 := sB574 _ List.mem_cons_self
theorem sB575 : ∀ w ∈ wB575, w ∈ wA0 := fun w h => sB574 w (List.mem_cons_of_mem _ h)
theorem mB575 : Cond.instanceMethod yX6_earliest ∈ wA0 := sB575 _ List.mem_cons_self
theorem sB576 : ∀ w ∈ wB576, w ∈ wA0 := fun w h => sB575 w (List.mem_cons_of_mem _ h)
theorem mB576 : Cond.selects RX6 yX6_earliest yX6_earliest ∈ wA0 := sB576 _ List.mem_cons_self
theorem sB577 : ∀ w ∈ wB577, w ∈ wA0 := fun w h => sB576 w (List.mem_cons_of_mem _ h)
theorem mB577 : Cond.methodLink RL 157 yX6_isSound ∈ wA0 := sB577 _ List.mem_cons_self
theorem sB578 : ∀ w ∈ wB578, w ∈ wA0 := fun w h => sB577 w (List.mem_cons_of_mem _ h)
theorem mB578 : Cond.instanceMethod yX6_isSound ∈ wA0 := sB578 _ List.mem_cons_self
theorem sB579 : ∀ w ∈ wB579, w ∈ wA0 := fun w h => sB578 w (List.mem_cons_of_mem _ h)
theorem mB579 : Cond.selects RX6 yX6_isSound yX6_isSound ∈ wA0 := sB579 _ List.mem_cons_self
theorem sB580 : ∀ w ∈ wB580, w ∈ wA0 := fun w h => sB579 w (List.mem_cons_of_mem _ h)
theorem mB580 : Cond.code yL_clocks cL_clocks 8 (some .boolean) ∈ wA0 := sB580 _ List.mem_cons_self
theorem sB581 : ∀ w ∈ wB581, w ∈ wA0 := fun w h => sB580 w (List.mem_cons_of_mem _ h)
theorem mB581 : Cond.methodLink RL 161 yL_snapshots ∈ wA0 := sB581 _ List.mem_cons_self
theorem sB582 : ∀ w ∈ wB582, w ∈ wA0 := fun w h => sB581 w (List.mem_cons_of_mem _ h)
theorem mB582 : Cond.static yL_snapshots ∈ wA0 := sB582 _ List.mem_cons_self
theorem sB583 : ∀ w ∈ wB583, w ∈ wA0 := fun w h => sB582 w (List.mem_cons_of_mem _ h)
theorem mB583 : Cond.methodLink RL 164 yX6_ticksUntilSafe ∈ wA0 := sB583 _ List.mem_cons_self
theorem sB584 : ∀ w ∈ wB584, w ∈ wA0 := fun w h => sB583 w (List.mem_cons_of_mem _ h)
theorem mB584 : Cond.instanceMethod yX6_ticksUntilSafe ∈ wA0 := sB584 _ List.mem_cons_self
theorem sB585 : ∀ w ∈ wB585, w ∈ wA0 := fun w h => sB584 w (List.mem_cons_of_mem _ h)
theorem mB585 : Cond.selects RX6 yX6_ticksUntilSafe yX6_ticksUntilSafe ∈ wA0 := sB585 _ List.mem_cons_self
theorem sB586 : ∀ w ∈ wB586, w ∈ wA0 := fun w h => sB585 w (List.mem_cons_of_mem _ h)
theorem mB586 : Cond.code yL_isRead cL_isRead 8 (some .boolean) ∈ wA0 := sB586 _ List.mem_cons_self
theorem sB587 : ∀ w ∈ wB587, w ∈ wA0 := fun w h => sB586 w (List.mem_cons_of_mem _ h)
theorem mB587 : Cond.classLink RL 9 RX6 ∈ wA0 := sB587 _ List.mem_cons_self
theorem sB588 : ∀ w ∈ wB588, w ∈ wA0 := fun w h => sB587 w (List.mem_cons_of_mem _ h)
theorem mB588 : Cond.instantiable RX6 5 ∈ wA0 := sB588 _ List.mem_cons_self
theorem sB589 : ∀ w ∈ wB589, w ∈ wA0 := fun w h => sB588 w (List.mem_cons_of_mem _ h)
theorem mB589 : Cond.methodLink RL 167 yX6_init ∈ wA0 := sB589 _ List.mem_cons_self
theorem sB590 : ∀ w ∈ wB590, w ∈ wA0 := fun w h => sB589 w (List.mem_cons_of_mem _ h)
theorem mB590 : Cond.instanceMethod yX6_init ∈ wA0 := sB590 _ List.mem_cons_self
theorem sB591 : ∀ w ∈ wB591, w ∈ wA0 := fun w h => sB590 w (List.mem_cons_of_mem _ h)
theorem mB591 : Cond.methodLink RL 168 yX6_savedStates ∈ wA0 := sB591 _ List.mem_cons_self
theorem sB592 : ∀ w ∈ wB592, w ∈ wA0 := fun w h => sB591 w (List.mem_cons_of_mem _ h)
theorem mB592 : Cond.instanceMethod yX6_savedStates ∈ wA0 := sB592 _ List.mem_cons_self
theorem sB593 : ∀ w ∈ wB593, w ∈ wA0 := fun w h => sB592 w (List.mem_cons_of_mem _ h)
theorem mB593 : Cond.selects RX6 yX6_savedStates yX6_savedStates ∈ wA0 := sB593 _ List.mem_cons_self
theorem sB594 : ∀ w ∈ wB594, w ∈ wA0 := fun w h => sB593 w (List.mem_cons_of_mem _ h)
theorem mB594 : Cond.methodLink RL 171 yL_cell ∈ wA0 := sB594 _ List.mem_cons_self
theorem sB595 : ∀ w ∈ wB595, w ∈ wA0 := fun w h => sB594 w (List.mem_cons_of_mem _ h)
theorem mB595 : Cond.static yL_cell ∈ wA0 := sB595 _ List.mem_cons_self
theorem sB596 : ∀ w ∈ wB596, w ∈ wA0 := fun w h => sB595 w (List.mem_cons_of_mem _ h)
theorem mB596 : Cond.methodLink RL 175 yL_does ∈ wA0 := sB596 _ List.mem_cons_self
theorem sB597 : ∀ w ∈ wB597, w ∈ wA0 := fun w h => sB596 w (List.mem_cons_of_mem _ h)
theorem mB597 : Cond.static yL_does ∈ wA0 := sB597 _ List.mem_cons_self
theorem sB598 : ∀ w ∈ wB598, w ∈ wA0 := fun w h => sB597 w (List.mem_cons_of_mem _ h)
theorem mB598 : Cond.methodLink RL 178 yL_clocks ∈ wA0 := sB598 _ List.mem_cons_self
theorem sB599 : ∀ w ∈ wB599, w ∈ wA0 := fun w h => sB598 w (List.mem_cons_of_mem _ h)
theorem mB599 : Cond.static yL_clocks ∈ wA0 := sB599 _ List.mem_cons_self
theorem sB600 : ∀ w ∈ wB600, w ∈ wA0 := fun w h => sB599 w (List.mem_cons_of_mem _ h)
theorem mB600 : Cond.methodLink RL 181 yL_isRead ∈ wA0 := sB600 _ List.mem_cons_self
theorem sB601 : ∀ w ∈ wB601, w ∈ wA0 := fun w h => sB600 w (List.mem_cons_of_mem _ h)
theorem mB601 : Cond.static yL_isRead ∈ wA0 := sB601 _ List.mem_cons_self
theorem sB602 : ∀ w ∈ wB602, w ∈ wA0 := fun w h => sB601 w (List.mem_cons_of_mem _ h)
theorem mB602 : Cond.methodLink RL 185 yL_areAll ∈ wA0 := sB602 _ List.mem_cons_self
theorem sB603 : ∀ w ∈ wB603, w ∈ wA0 := fun w h => sB602 w (List.mem_cons_of_mem _ h)
theorem mB603 : Cond.static yL_areAll ∈ wA0 := sB603 _ List.mem_cons_self
theorem sB604 : ∀ w ∈ wB604, w ∈ wA0 := fun w h => sB603 w (List.mem_cons_of_mem _ h)
theorem oB604 : ∀ w ∈ wB604, goodWord w = true := fun _ h => absurd h List.not_mem_nil
theorem oB603 : ∀ w ∈ wB603, goodWord w = true := List.forall_mem_cons.mpr ⟨rfl, oB604⟩
theorem oB602 : ∀ w ∈ wB602, goodWord w = true := List.forall_mem_cons.mpr ⟨rfl, oB603⟩
theorem oB601 : ∀ w ∈ wB601, goodWord w = true := List.forall_mem_cons.mpr ⟨rfl, oB602⟩
theorem oB600 : ∀ w ∈ wB600, goodWord w = true := List.forall_mem_cons.mpr ⟨rfl, oB601⟩
theorem oB599 : ∀ w ∈ wB599, goodWord w = true := List.forall_mem_cons.mpr ⟨rfl, oB600⟩
theorem oB598 : ∀ w ∈ wB598, goodWord w = true := List.forall_mem_cons.mpr ⟨rfl, oB599⟩
theorem oB597 : ∀ w ∈ wB597, goodWord w = true := List.forall_mem_cons.mpr ⟨rfl, oB598⟩
theorem oB596 : ∀ w ∈ wB596, goodWord w = true := List.forall_mem_cons.mpr ⟨rfl, oB597⟩
theorem oB595 : ∀ w ∈ wB595, goodWord w = true := List.forall_mem_cons.mpr ⟨rfl, oB596⟩
theorem oB594 : ∀ w ∈ wB594, goodWord w = true := List.forall_mem_cons.mpr ⟨rfl, oB595⟩
theorem oB593 : ∀ w ∈ wB593, goodWord w = true := List.forall_mem_cons.mpr ⟨rfl, oB594⟩
theorem oB592 : ∀ w ∈ wB592, goodWord w = true := List.forall_mem_cons.mpr ⟨rfl, oB593⟩
theorem oB591 : ∀ w ∈ wB591, goodWord w = true := List.forall_mem_cons.mpr ⟨rfl, oB592⟩
theorem oB590 : ∀ w ∈ wB590, goodWord w = true := List.forall_mem_cons.mpr ⟨rfl, oB591⟩
theorem oB589 : ∀ w ∈ wB589, goodWord w = true := List.forall_mem_cons.mpr ⟨rfl, oB590⟩
theorem oB588 : ∀ w ∈ wB588, goodWord w = true := List.forall_mem_cons.mpr ⟨rfl, oB589⟩
theorem oB587 : ∀ w ∈ wB587, goodWord w = true := List.forall_mem_cons.mpr ⟨rfl, oB588⟩
theorem oB586 : ∀ w ∈ wB586, goodWord w = true := List.forall_mem_cons.mpr ⟨rfl, oB587⟩
theorem oB585 : ∀ w ∈ wB585, goodWord w = true := List.forall_mem_cons.mpr ⟨rfl, oB586⟩
theorem oB584 : ∀ w ∈ wB584, goodWord w = true := List.forall_mem_cons.mpr ⟨rfl, oB585⟩
theorem oB583 : ∀ w ∈ wB583, goodWord w = true := List.forall_mem_cons.mpr ⟨rfl, oB584⟩
theorem oB582 : ∀ w ∈ wB582, goodWord w = true := List.forall_mem_cons.mpr ⟨rfl, oB583⟩
theorem oB581 : ∀ w ∈ wB581, goodWord w = true := List.forall_mem_cons.mpr ⟨rfl, oB582⟩
theorem oB580 : ∀ w ∈ wB580, goodWord w = true := List.forall_mem_cons.mpr ⟨rfl, oB581⟩
theorem oB579 : ∀ w ∈ wB579, goodWord w = true := List.forall_mem_cons.mpr ⟨rfl, oB580⟩
theorem oB578 : ∀ w ∈ wB578, goodWord w = true := List.forall_mem_cons.mpr ⟨rfl, oB579⟩
theorem oB577 : ∀ w ∈ wB577, goodWord w = true := List.forall_mem_cons.mpr ⟨rfl, oB578⟩
theorem oB576 : ∀ w ∈ wB576, goodWord w = true := List.forall_mem_cons.mpr ⟨rfl, oB577⟩
theorem oB575 : ∀ w ∈ wB575, goodWord w = true := List.forall_mem_cons.mpr ⟨rfl, oB576⟩
theorem oB574 : ∀ w ∈ wB574, goodWord w = true := List.forall_mem_cons.mpr ⟨rfl, oB575⟩
theorem oB573 : ∀ w ∈ wB573, goodWord w = true := List.forall_mem_cons.mpr ⟨rfl, oB574⟩
theorem oB572 : ∀ w ∈ wB572, goodWord w = true := List.forall_mem_cons.mpr ⟨rfl, oB573⟩
theorem oB571 : ∀ w ∈ wB571, goodWord w = true := List.forall_mem_cons.mpr ⟨rfl, oB572⟩
theorem oB570 : ∀ w ∈ wB570, goodWord w = true := List.forall_mem_cons.mpr ⟨rfl, oB571⟩
theorem oB569 : ∀ w ∈ wB569, goodWord w = true := List.forall_mem_cons.mpr ⟨rfl, oB570⟩
theorem oB568 : ∀ w ∈ wB568, goodWord w = true := List.forall_mem_cons.mpr ⟨rfl, oB569⟩
theorem oB567 : ∀ w ∈ wB567, goodWord w = true := List.forall_mem_cons.mpr ⟨rfl, oB568⟩
theorem oB566 : ∀ w ∈ wB566, goodWord w = true := List.forall_mem_cons.mpr ⟨rfl, oB567⟩
theorem oB565 : ∀ w ∈ wB565, goodWord w = true := List.forall_mem_cons.mpr ⟨rfl, oB566⟩
theorem oB564 : ∀ w ∈ wB564, goodWord w = true := List.forall_mem_cons.mpr ⟨rfl, oB565⟩
theorem oB563 : ∀ w ∈ wB563, goodWord w = true := List.forall_mem_cons.mpr ⟨rfl, oB564⟩
theorem oB562 : ∀ w ∈ wB562, goodWord w = true := List.forall_mem_cons.mpr ⟨rfl, oB563⟩
theorem oB561 : ∀ w ∈ wB561, goodWord w = true := List.forall_mem_cons.mpr ⟨rfl, oB562⟩
theorem oB560 : ∀ w ∈ wB560, goodWord w = true := List.forall_mem_cons.mpr ⟨rfl, oB561⟩
theorem oB559 : ∀ w ∈ wB559, goodWord w = true := List.forall_mem_cons.mpr ⟨rfl, oB560⟩
theorem oB558 : ∀ w ∈ wB558, goodWord w = true := List.forall_mem_cons.mpr ⟨rfl, oB559⟩
theorem oB557 : ∀ w ∈ wB557, goodWord w = true := List.forall_mem_cons.mpr ⟨rfl, oB558⟩
theorem oB556 : ∀ w ∈ wB556, goodWord w = true := List.forall_mem_cons.mpr ⟨rfl, oB557⟩
theorem oB555 : ∀ w ∈ wB555, goodWord w = true := List.forall_mem_cons.mpr ⟨rfl, oB556⟩
theorem oB554 : ∀ w ∈ wB554, goodWord w = true := List.forall_mem_cons.mpr ⟨rfl, oB555⟩
theorem oB553 : ∀ w ∈ wB553, goodWord w = true := List.forall_mem_cons.mpr ⟨rfl, oB554⟩
theorem oB552 : ∀ w ∈ wB552, goodWord w = true := List.forall_mem_cons.mpr ⟨rfl, oB553⟩
theorem oB551 : ∀ w ∈ wB551, goodWord w = true := List.forall_mem_cons.mpr ⟨rfl, oB552⟩
theorem oB550 : ∀ w ∈ wB550, goodWord w = true := List.forall_mem_cons.mpr ⟨rfl, oB551⟩
theorem oB549 : ∀ w ∈ wB549, goodWord w = true := List.forall_mem_cons.mpr ⟨rfl, oB550⟩
theorem oB548 : ∀ w ∈ wB548, goodWord w = true := List.forall_mem_cons.mpr ⟨rfl, oB549⟩
theorem oB547 : ∀ w ∈ wB547, goodWord w = true := List.forall_mem_cons.mpr ⟨rfl, oB548⟩
theorem oB546 : ∀ w ∈ wB546, goodWord w = true := List.forall_mem_cons.mpr ⟨rfl, oB547⟩
theorem oB545 : ∀ w ∈ wB545, goodWord w = true := List.forall_mem_cons.mpr ⟨rfl, oB546⟩
theorem oB544 : ∀ w ∈ wB544, goodWord w = true := List.forall_mem_cons.mpr ⟨rfl, oB545⟩
theorem oB543 : ∀ w ∈ wB543, goodWord w = true := List.forall_mem_cons.mpr ⟨rfl, oB544⟩
theorem oB542 : ∀ w ∈ wB542, goodWord w = true := List.forall_mem_cons.mpr ⟨rfl, oB543⟩
theorem oB541 : ∀ w ∈ wB541, goodWord w = true := List.forall_mem_cons.mpr ⟨rfl, oB542⟩
theorem oB540 : ∀ w ∈ wB540, goodWord w = true := List.forall_mem_cons.mpr ⟨rfl, oB541⟩
theorem oB539 : ∀ w ∈ wB539, goodWord w = true := List.forall_mem_cons.mpr ⟨rfl, oB540⟩
theorem oB538 : ∀ w ∈ wB538, goodWord w = true := List.forall_mem_cons.mpr ⟨rfl, oB539⟩
theorem oB537 : ∀ w ∈ wB537, goodWord w = true := List.forall_mem_cons.mpr ⟨rfl, oB538⟩
theorem oB536 : ∀ w ∈ wB536, goodWord w = true := List.forall_mem_cons.mpr ⟨rfl, oB537⟩
theorem oB535 : ∀ w ∈ wB535, goodWord w = true := List.forall_mem_cons.mpr ⟨rfl, oB536⟩
theorem oB534 : ∀ w ∈ wB534, goodWord w = true := List.forall_mem_cons.mpr ⟨rfl, oB535⟩
theorem oB533 : ∀ w ∈ wB533, goodWord w = true := List.forall_mem_cons.mpr ⟨rfl, oB534⟩
theorem oB532 : ∀ w ∈ wB532, goodWord w = true := List.forall_mem_cons.mpr ⟨rfl, oB533⟩
theorem oB531 : ∀ w ∈ wB531, goodWord w = true := List.forall_mem_cons.mpr ⟨rfl, oB532⟩
theorem oB530 : ∀ w ∈ wB530, goodWord w = true := List.forall_mem_cons.mpr ⟨rfl, oB531⟩
theorem oB529 : ∀ w ∈ wB529, goodWord w = true := List.forall_mem_cons.mpr ⟨rfl, oB530⟩
theorem oB528 : ∀ w ∈ wB528, goodWord w = true := List.forall_mem_cons.mpr ⟨rfl, oB529⟩
theorem oB527 : ∀ w ∈ wB527, goodWord w = true := List.forall_mem_cons.mpr ⟨rfl, oB528⟩
theorem oB526 : ∀ w ∈ wB526, goodWord w = true := List.forall_mem_cons.mpr ⟨rfl, oB527⟩
theorem oB525 : ∀ w ∈ wB525, goodWord w = true := List.forall_mem_cons.mpr ⟨rfl, oB526⟩
theorem oB524 : ∀ w ∈ wB524, goodWord w = true := List.forall_mem_cons.mpr ⟨rfl, oB525⟩
theorem oB523 : ∀ w ∈ wB523, goodWord w = true := List.forall_mem_cons.mpr ⟨rfl, oB524⟩
theorem oB522 : ∀ w ∈ wB522, goodWord w = true := List.forall_mem_cons.mpr ⟨rfl, oB523⟩
theorem oB521 : ∀ w ∈ wB521, goodWord w = true := List.forall_mem_cons.mpr ⟨rfl, oB522⟩
theorem oB520 : ∀ w ∈ wB520, goodWord w = true := List.forall_mem_cons.mpr ⟨rfl, oB521⟩
theorem oB519 : ∀ w ∈ wB519, goodWord w = true := List.forall_mem_cons.mpr ⟨rfl, oB520⟩
theorem oB518 : ∀ w ∈ wB518, goodWord w = true := List.forall_mem_cons.mpr ⟨rfl, oB519⟩
theorem oB517 : ∀ w ∈ wB517, goodWord w = true := List.forall_mem_cons.mpr ⟨rfl, oB518⟩
theorem oB516 : ∀ w ∈ wB516, goodWord w = true := List.forall_mem_cons.mpr ⟨rfl, oB517⟩
theorem oB515 : ∀ w ∈ wB515, goodWord w = true := List.forall_mem_cons.mpr ⟨rfl, oB516⟩
theorem oB514 : ∀ w ∈ wB514, goodWord w = true := List.forall_mem_cons.mpr ⟨rfl, oB515⟩
theorem oB513 : ∀ w ∈ wB513, goodWord w = true := List.forall_mem_cons.mpr ⟨rfl, oB514⟩
theorem oB512 : ∀ w ∈ wB512, goodWord w = true := List.forall_mem_cons.mpr ⟨rfl, oB513⟩
theorem oB511 : ∀ w ∈ wB511, goodWord w = true := List.forall_mem_cons.mpr ⟨rfl, oB512⟩
theorem oB510 : ∀ w ∈ wB510, goodWord w = true := List.forall_mem_cons.mpr ⟨rfl, oB511⟩
theorem oB509 : ∀ w ∈ wB509, goodWord w = true := List.forall_mem_cons.mpr ⟨rfl, oB510⟩
theorem oB508 : ∀ w ∈ wB508, goodWord w = true := List.forall_mem_cons.mpr ⟨rfl, oB509⟩
theorem oB507 : ∀ w ∈ wB507, goodWord w = true := List.forall_mem_cons.mpr ⟨rfl, oB508⟩
theorem oB506 : ∀ w ∈ wB506, goodWord w = true := List.forall_mem_cons.mpr ⟨rfl, oB507⟩
theorem oB505 : ∀ w ∈ wB505, goodWord w = true := List.forall_mem_cons.mpr ⟨rfl, oB506⟩
theorem oB504 : ∀ w ∈ wB504, goodWord w = true := List.forall_mem_cons.mpr ⟨rfl, oB505⟩
theorem oB503 : ∀ w ∈ wB503, goodWord w = true := List.forall_mem_cons.mpr ⟨rfl, oB504⟩
theorem oB502 : ∀ w ∈ wB502, goodWord w = true := List.forall_mem_cons.mpr ⟨rfl, oB503⟩
theorem oB501 : ∀ w ∈ wB501, goodWord w = true := List.forall_mem_cons.mpr ⟨rfl, oB502⟩
theorem oB500 : ∀ w ∈ wB500, goodWord w = true := List.forall_mem_cons.mpr ⟨rfl, oB501⟩
theorem oB499 : ∀ w ∈ wB499, goodWord w = true := List.forall_mem_cons.mpr ⟨rfl, oB500⟩
theorem oB498 : ∀ w ∈ wB498, goodWord w = true := List.forall_mem_cons.mpr ⟨rfl, oB499⟩
theorem oB497 : ∀ w ∈ wB497, goodWord w = true := List.forall_mem_cons.mpr ⟨rfl, oB498⟩
theorem oB496 : ∀ w ∈ wB496, goodWord w = true := List.forall_mem_cons.mpr ⟨rfl, oB497⟩
theorem oB495 : ∀ w ∈ wB495, goodWord w = true := List.forall_mem_cons.mpr ⟨rfl, oB496⟩
theorem oB494 : ∀ w ∈ wB494, goodWord w = true := List.forall_mem_cons.mpr ⟨rfl, oB495⟩
theorem oB493 : ∀ w ∈ wB493, goodWord w = true := List.forall_mem_cons.mpr ⟨rfl, oB494⟩
theorem oB492 : ∀ w ∈ wB492, goodWord w = true := List.forall_mem_cons.mpr ⟨rfl, oB493⟩
theorem oB491 : ∀ w ∈ wB491, goodWord w = true := List.forall_mem_cons.mpr ⟨rfl, oB492⟩
theorem oB490 : ∀ w ∈ wB490, goodWord w = true := List.forall_mem_cons.mpr ⟨rfl, oB491⟩
theorem oB489 : ∀ w ∈ wB489, goodWord w = true := List.forall_mem_cons.mpr ⟨rfl, oB490⟩
theorem oB488 : ∀ w ∈ wB488, goodWord w = true := List.forall_mem_cons.mpr ⟨rfl, oB489⟩
theorem oB487 : ∀ w ∈ wB487, goodWord w = true := List.forall_mem_cons.mpr ⟨rfl, oB488⟩
theorem oB486 : ∀ w ∈ wB486, goodWord w = true := List.forall_mem_cons.mpr ⟨rfl, oB487⟩
theorem oB485 : ∀ w ∈ wB485, goodWord w = true := List.forall_mem_cons.mpr ⟨rfl, oB486⟩
theorem oB484 : ∀ w ∈ wB484, goodWord w = true := List.forall_mem_cons.mpr ⟨rfl, oB485⟩
theorem oB483 : ∀ w ∈ wB483, goodWord w = true := List.forall_mem_cons.mpr ⟨rfl, oB484⟩
theorem oB482 : ∀ w ∈ wB482, goodWord w = true := List.forall_mem_cons.mpr ⟨rfl, oB483⟩
theorem oB481 : ∀ w ∈ wB481, goodWord w = true := List.forall_mem_cons.mpr ⟨rfl, oB482⟩
theorem oB480 : ∀ w ∈ wB480, goodWord w = true := List.forall_mem_cons.mpr ⟨rfl, oB481⟩
theorem oB479 : ∀ w ∈ wB479, goodWord w = true := List.forall_mem_cons.mpr ⟨rfl, oB480⟩
theorem oB478 : ∀ w ∈ wB478, goodWord w = true := List.forall_mem_cons.mpr ⟨rfl, oB479⟩
theorem oB477 : ∀ w ∈ wB477, goodWord w = true := List.forall_mem_cons.mpr ⟨rfl, oB478⟩
theorem oB476 : ∀ w ∈ wB476, goodWord w = true := List.forall_mem_cons.mpr ⟨rfl, oB477⟩
theorem oB475 : ∀ w ∈ wB475, goodWord w = true := List.forall_mem_cons.mpr ⟨rfl, oB476⟩
theorem oB474 : ∀ w ∈ wB474, goodWord w = true := List.forall_mem_cons.mpr ⟨rfl, oB475⟩
theorem oB473 : ∀ w ∈ wB473, goodWord w = true := List.forall_mem_cons.mpr ⟨rfl, oB474⟩
theorem oB472 : ∀ w ∈ wB472, goodWord w = true := List.forall_mem_cons.mpr ⟨rfl, oB473⟩
theorem oB471 : ∀ w ∈ wB471, goodWord w = true := List.forall_mem_cons.mpr ⟨rfl, oB472⟩
theorem oB470 : ∀ w ∈ wB470, goodWord w = true := List.forall_mem_cons.mpr ⟨rfl, oB471⟩
theorem oB469 : ∀ w ∈ wB469, goodWord w = true := List.forall_mem_cons.mpr ⟨rfl, oB470⟩
theorem oB468 : ∀ w ∈ wB468, goodWord w = true := List.forall_mem_cons.mpr ⟨rfl, oB469⟩
theorem oB467 : ∀ w ∈ wB467, goodWord w = true := List.forall_mem_cons.mpr ⟨rfl, oB468⟩
theorem oB466 : ∀ w ∈ wB466, goodWord w = true := List.forall_mem_cons.mpr ⟨rfl, oB467⟩
theorem oB465 : ∀ w ∈ wB465, goodWord w = true := List.forall_mem_cons.mpr ⟨rfl, oB466⟩
theorem oB464 : ∀ w ∈ wB464, goodWord w = true := List.forall_mem_cons.mpr ⟨rfl, oB465⟩
theorem oB463 : ∀ w ∈ wB463, goodWord w = true := List.forall_mem_cons.mpr ⟨rfl, oB464⟩
theorem oB462 : ∀ w ∈ wB462, goodWord w = true := List.forall_mem_cons.mpr ⟨rfl, oB463⟩
theorem oB461 : ∀ w ∈ wB461, goodWord w = true := List.forall_mem_cons.mpr ⟨rfl, oB462⟩
theorem oB460 : ∀ w ∈ wB460, goodWord w = true := List.forall_mem_cons.mpr ⟨rfl, oB461⟩
theorem oB459 : ∀ w ∈ wB459, goodWord w = true := List.forall_mem_cons.mpr ⟨rfl, oB460⟩
theorem oB458 : ∀ w ∈ wB458, goodWord w = true := List.forall_mem_cons.mpr ⟨rfl, oB459⟩
theorem oB457 : ∀ w ∈ wB457, goodWord w = true := List.forall_mem_cons.mpr ⟨rfl, oB458⟩
theorem oB456 : ∀ w ∈ wB456, goodWord w = true := List.forall_mem_cons.mpr ⟨rfl, oB457⟩
theorem oB455 : ∀ w ∈ wB455, goodWord w = true := List.forall_mem_cons.mpr ⟨rfl, oB456⟩
theorem oB454 : ∀ w ∈ wB454, goodWord w = true := List.forall_mem_cons.mpr ⟨rfl, oB455⟩
theorem oB453 : ∀ w ∈ wB453, goodWord w = true := List.forall_mem_cons.mpr ⟨rfl, oB454⟩
theorem oB452 : ∀ w ∈ wB452, goodWord w = true := List.forall_mem_cons.mpr ⟨rfl, oB453⟩
theorem oB451 : ∀ w ∈ wB451, goodWord w = true := List.forall_mem_cons.mpr ⟨rfl, oB452⟩
theorem oB450 : ∀ w ∈ wB450, goodWord w = true := List.forall_mem_cons.mpr ⟨rfl, oB451⟩
theorem oB449 : ∀ w ∈ wB449, goodWord w = true := List.forall_mem_cons.mpr ⟨rfl, oB450⟩
theorem oB448 : ∀ w ∈ wB448, goodWord w = true := List.forall_mem_cons.mpr ⟨rfl, oB449⟩
theorem oB447 : ∀ w ∈ wB447, goodWord w = true := List.forall_mem_cons.mpr ⟨rfl, oB448⟩
theorem oB446 : ∀ w ∈ wB446, goodWord w = true := List.forall_mem_cons.mpr ⟨rfl, oB447⟩
theorem oB445 : ∀ w ∈ wB445, goodWord w = true := List.forall_mem_cons.mpr ⟨rfl, oB446⟩
theorem oB444 : ∀ w ∈ wB444, goodWord w = true := List.forall_mem_cons.mpr ⟨rfl, oB445⟩
theorem oB443 : ∀ w ∈ wB443, goodWord w = true := List.forall_mem_cons.mpr ⟨rfl, oB444⟩
theorem oB442 : ∀ w ∈ wB442, goodWord w = true := List.forall_mem_cons.mpr ⟨rfl, oB443⟩
theorem oB441 : ∀ w ∈ wB441, goodWord w = true := List.forall_mem_cons.mpr ⟨rfl, oB442⟩
theorem oB440 : ∀ w ∈ wB440, goodWord w = true := List.forall_mem_cons.mpr ⟨rfl, oB441⟩
theorem oB439 : ∀ w ∈ wB439, goodWord w = true := List.forall_mem_cons.mpr ⟨rfl, oB440⟩
theorem oB438 : ∀ w ∈ wB438, goodWord w = true := List.forall_mem_cons.mpr ⟨rfl, oB439⟩
theorem oB437 : ∀ w ∈ wB437, goodWord w = true := List.forall_mem_cons.mpr ⟨rfl, oB438⟩
theorem oB436 : ∀ w ∈ wB436, goodWord w = true := List.forall_mem_cons.mpr ⟨rfl, oB437⟩
theorem oB435 : ∀ w ∈ wB435, goodWord w = true := List.forall_mem_cons.mpr ⟨rfl, oB436⟩
theorem oB434 : ∀ w ∈ wB434, goodWord w = true := List.forall_mem_cons.mpr ⟨rfl, oB435⟩
theorem oB433 : ∀ w ∈ wB433, goodWord w = true := List.forall_mem_cons.mpr ⟨rfl, oB434⟩
theorem oB432 : ∀ w ∈ wB432, goodWord w = true := List.forall_mem_cons.mpr ⟨rfl, oB433⟩
theorem oB431 : ∀ w ∈ wB431, goodWord w = true := List.forall_mem_cons.mpr ⟨rfl, oB432⟩
theorem oB430 : ∀ w ∈ wB430, goodWord w = true := List.forall_mem_cons.mpr ⟨rfl, oB431⟩
theorem oB429 : ∀ w ∈ wB429, goodWord w = true := List.forall_mem_cons.mpr ⟨rfl, oB430⟩
theorem oB428 : ∀ w ∈ wB428, goodWord w = true := List.forall_mem_cons.mpr ⟨rfl, oB429⟩
theorem oB427 : ∀ w ∈ wB427, goodWord w = true := List.forall_mem_cons.mpr ⟨rfl, oB428⟩
theorem oB426 : ∀ w ∈ wB426, goodWord w = true := List.forall_mem_cons.mpr ⟨rfl, oB427⟩
theorem oB425 : ∀ w ∈ wB425, goodWord w = true := List.forall_mem_cons.mpr ⟨rfl, oB426⟩
theorem oB424 : ∀ w ∈ wB424, goodWord w = true := List.forall_mem_cons.mpr ⟨rfl, oB425⟩
theorem oB423 : ∀ w ∈ wB423, goodWord w = true := List.forall_mem_cons.mpr ⟨rfl, oB424⟩
theorem oB422 : ∀ w ∈ wB422, goodWord w = true := List.forall_mem_cons.mpr ⟨rfl, oB423⟩
theorem oB421 : ∀ w ∈ wB421, goodWord w = true := List.forall_mem_cons.mpr ⟨rfl, oB422⟩
theorem oB420 : ∀ w ∈ wB420, goodWord w = true := List.forall_mem_cons.mpr ⟨rfl, oB421⟩
theorem oB419 : ∀ w ∈ wB419, goodWord w = true := List.forall_mem_cons.mpr ⟨rfl, oB420⟩
theorem oB418 : ∀ w ∈ wB418, goodWord w = true := List.forall_mem_cons.mpr ⟨rfl, oB419⟩
theorem oB417 : ∀ w ∈ wB417, goodWord w = true := List.forall_mem_cons.mpr ⟨rfl, oB418⟩
theorem oB416 : ∀ w ∈ wB416, goodWord w = true := List.forall_mem_cons.mpr ⟨rfl, oB417⟩
theorem oB415 : ∀ w ∈ wB415, goodWord w = true := List.forall_mem_cons.mpr ⟨rfl, oB416⟩
theorem oB414 : ∀ w ∈ wB414, goodWord w = true := List.forall_mem_cons.mpr ⟨rfl, oB415⟩
theorem oB413 : ∀ w ∈ wB413, goodWord w = true := List.forall_mem_cons.mpr ⟨rfl, oB414⟩
theorem oB412 : ∀ w ∈ wB412, goodWord w = true := List.forall_mem_cons.mpr ⟨rfl, oB413⟩
theorem oB411 : ∀ w ∈ wB411, goodWord w = true := List.forall_mem_cons.mpr ⟨rfl, oB412⟩
theorem oB410 : ∀ w ∈ wB410, goodWord w = true := List.forall_mem_cons.mpr ⟨rfl, oB411⟩
theorem oB409 : ∀ w ∈ wB409, goodWord w = true := List.forall_mem_cons.mpr ⟨rfl, oB410⟩
theorem oB408 : ∀ w ∈ wB408, goodWord w = true := List.forall_mem_cons.mpr ⟨rfl, oB409⟩
theorem oB407 : ∀ w ∈ wB407, goodWord w = true := List.forall_mem_cons.mpr ⟨rfl, oB408⟩
theorem oB406 : ∀ w ∈ wB406, goodWord w = true := List.forall_mem_cons.mpr ⟨rfl, oB407⟩
theorem oB405 : ∀ w ∈ wB405, goodWord w = true := List.forall_mem_cons.mpr ⟨rfl, oB406⟩
theorem oB404 : ∀ w ∈ wB404, goodWord w = true := List.forall_mem_cons.mpr ⟨rfl, oB405⟩
theorem oB403 : ∀ w ∈ wB403, goodWord w = true := List.forall_mem_cons.mpr ⟨rfl, oB404⟩
theorem oB402 : ∀ w ∈ wB402, goodWord w = true := List.forall_mem_cons.mpr ⟨rfl, oB403⟩
theorem oB401 : ∀ w ∈ wB401, goodWord w = true := List.forall_mem_cons.mpr ⟨rfl, oB402⟩
theorem oB400 : ∀ w ∈ wB400, goodWord w = true := List.forall_mem_cons.mpr ⟨rfl, oB401⟩
theorem oB399 : ∀ w ∈ wB399, goodWord w = true := List.forall_mem_cons.mpr ⟨rfl, oB400⟩
theorem oB398 : ∀ w ∈ wB398, goodWord w = true := List.forall_mem_cons.mpr ⟨rfl, oB399⟩
theorem oB397 : ∀ w ∈ wB397, goodWord w = true := List.forall_mem_cons.mpr ⟨rfl, oB398⟩
theorem oB396 : ∀ w ∈ wB396, goodWord w = true := List.forall_mem_cons.mpr ⟨rfl, oB397⟩
theorem oB395 : ∀ w ∈ wB395, goodWord w = true := List.forall_mem_cons.mpr ⟨rfl, oB396⟩
theorem oB394 : ∀ w ∈ wB394, goodWord w = true := List.forall_mem_cons.mpr ⟨rfl, oB395⟩
theorem oB393 : ∀ w ∈ wB393, goodWord w = true := List.forall_mem_cons.mpr ⟨rfl, oB394⟩
theorem oB392 : ∀ w ∈ wB392, goodWord w = true := List.forall_mem_cons.mpr ⟨rfl, oB393⟩
theorem oB391 : ∀ w ∈ wB391, goodWord w = true := List.forall_mem_cons.mpr ⟨rfl, oB392⟩
theorem oB390 : ∀ w ∈ wB390, goodWord w = true := List.forall_mem_cons.mpr ⟨rfl, oB391⟩
theorem oB389 : ∀ w ∈ wB389, goodWord w = true := List.forall_mem_cons.mpr ⟨rfl, oB390⟩
theorem oB388 : ∀ w ∈ wB388, goodWord w = true := List.forall_mem_cons.mpr ⟨rfl, oB389⟩
theorem oB387 : ∀ w ∈ wB387, goodWord w = true := List.forall_mem_cons.mpr ⟨rfl, oB388⟩
theorem oB386 : ∀ w ∈ wB386, goodWord w = true := List.forall_mem_cons.mpr ⟨rfl, oB387⟩
theorem oB385 : ∀ w ∈ wB385, goodWord w = true := List.forall_mem_cons.mpr ⟨rfl, oB386⟩
theorem oB384 : ∀ w ∈ wB384, goodWord w = true := List.forall_mem_cons.mpr ⟨rfl, oB385⟩
theorem oB383 : ∀ w ∈ wB383, goodWord w = true := List.forall_mem_cons.mpr ⟨rfl, oB384⟩
theorem oB382 : ∀ w ∈ wB382, goodWord w = true := List.forall_mem_cons.mpr ⟨rfl, oB383⟩
theorem oB381 : ∀ w ∈ wB381, goodWord w = true := List.forall_mem_cons.mpr ⟨rfl, oB382⟩
theorem oB380 : ∀ w ∈ wB380, goodWord w = true := List.forall_mem_cons.mpr ⟨rfl, oB381⟩
theorem oB379 : ∀ w ∈ wB379, goodWord w = true := List.forall_mem_cons.mpr ⟨rfl, oB380⟩
theorem oB378 : ∀ w ∈ wB378, goodWord w = true := List.forall_mem_cons.mpr ⟨rfl, oB379⟩
theorem oB377 : ∀ w ∈ wB377, goodWord w = true := List.forall_mem_cons.mpr ⟨rfl, oB378⟩
theorem oB376 : ∀ w ∈ wB376, goodWord w = true := List.forall_mem_cons.mpr ⟨rfl, oB377⟩
theorem oB375 : ∀ w ∈ wB375, goodWord w = true := List.forall_mem_cons.mpr ⟨rfl, oB376⟩
theorem oB374 : ∀ w ∈ wB374, goodWord w = true := List.forall_mem_cons.mpr ⟨rfl, oB375⟩
theorem oB373 : ∀ w ∈ wB373, goodWord w = true := List.forall_mem_cons.mpr ⟨rfl, oB374⟩
theorem oB372 : ∀ w ∈ wB372, goodWord w = true := List.forall_mem_cons.mpr ⟨rfl, oB373⟩
theorem oB371 : ∀ w ∈ wB371, goodWord w = true := List.forall_mem_cons.mpr ⟨rfl, oB372⟩
theorem oB370 : ∀ w ∈ wB370, goodWord w = true := List.forall_mem_cons.mpr ⟨rfl, oB371⟩
theorem oB369 : ∀ w ∈ wB369, goodWord w = true := List.forall_mem_cons.mpr ⟨rfl, oB370⟩
theorem oB368 : ∀ w ∈ wB368, goodWord w = true := List.forall_mem_cons.mpr ⟨rfl, oB369⟩
theorem oB367 : ∀ w ∈ wB367, goodWord w = true := List.forall_mem_cons.mpr ⟨rfl, oB368⟩
theorem oB366 : ∀ w ∈ wB366, goodWord w = true := List.forall_mem_cons.mpr ⟨rfl, oB367⟩
theorem oB365 : ∀ w ∈ wB365, goodWord w = true := List.forall_mem_cons.mpr ⟨rfl, oB366⟩
theorem oB364 : ∀ w ∈ wB364, goodWord w = true := List.forall_mem_cons.mpr ⟨rfl, oB365⟩
theorem oB363 : ∀ w ∈ wB363, goodWord w = true := List.forall_mem_cons.mpr ⟨rfl, oB364⟩
theorem oB362 : ∀ w ∈ wB362, goodWord w = true := List.forall_mem_cons.mpr ⟨rfl, oB363⟩
theorem oB361 : ∀ w ∈ wB361, goodWord w = true := List.forall_mem_cons.mpr ⟨rfl, oB362⟩
theorem oB360 : ∀ w ∈ wB360, goodWord w = true := List.forall_mem_cons.mpr ⟨rfl, oB361⟩
theorem oB359 : ∀ w ∈ wB359, goodWord w = true := List.forall_mem_cons.mpr ⟨rfl, oB360⟩
theorem oB358 : ∀ w ∈ wB358, goodWord w = true := List.forall_mem_cons.mpr ⟨rfl, oB359⟩
theorem oB357 : ∀ w ∈ wB357, goodWord w = true := List.forall_mem_cons.mpr ⟨rfl, oB358⟩
theorem oB356 : ∀ w ∈ wB356, goodWord w = true := List.forall_mem_cons.mpr ⟨rfl, oB357⟩
theorem oB355 : ∀ w ∈ wB355, goodWord w = true := List.forall_mem_cons.mpr ⟨rfl, oB356⟩
theorem oB354 : ∀ w ∈ wB354, goodWord w = true := List.forall_mem_cons.mpr ⟨rfl, oB355⟩
theorem oB353 : ∀ w ∈ wB353, goodWord w = true := List.forall_mem_cons.mpr ⟨rfl, oB354⟩
theorem oB352 : ∀ w ∈ wB352, goodWord w = true := List.forall_mem_cons.mpr ⟨rfl, oB353⟩
theorem oB351 : ∀ w ∈ wB351, goodWord w = true := List.forall_mem_cons.mpr ⟨rfl, oB352⟩
theorem oB350 : ∀ w ∈ wB350, goodWord w = true := List.forall_mem_cons.mpr ⟨rfl, oB351⟩
theorem oB349 : ∀ w ∈ wB349, goodWord w = true := List.forall_mem_cons.mpr ⟨rfl, oB350⟩
theorem oB348 : ∀ w ∈ wB348, goodWord w = true := List.forall_mem_cons.mpr ⟨rfl, oB349⟩
theorem oB347 : ∀ w ∈ wB347, goodWord w = true := List.forall_mem_cons.mpr ⟨rfl, oB348⟩
theorem oB346 : ∀ w ∈ wB346, goodWord w = true := List.forall_mem_cons.mpr ⟨rfl, oB347⟩
theorem oB345 : ∀ w ∈ wB345, goodWord w = true := List.forall_mem_cons.mpr ⟨rfl, oB346⟩
theorem oB344 : ∀ w ∈ wB344, goodWord w = true := List.forall_mem_cons.mpr ⟨rfl, oB345⟩
theorem oB343 : ∀ w ∈ wB343, goodWord w = true := List.forall_mem_cons.mpr ⟨rfl, oB344⟩
theorem oB342 : ∀ w ∈ wB342, goodWord w = true := List.forall_mem_cons.mpr ⟨rfl, oB343⟩
theorem oB341 : ∀ w ∈ wB341, goodWord w = true := List.forall_mem_cons.mpr ⟨rfl, oB342⟩
theorem oB340 : ∀ w ∈ wB340, goodWord w = true := List.forall_mem_cons.mpr ⟨rfl, oB341⟩
theorem oB339 : ∀ w ∈ wB339, goodWord w = true := List.forall_mem_cons.mpr ⟨rfl, oB340⟩
theorem oB338 : ∀ w ∈ wB338, goodWord w = true := List.forall_mem_cons.mpr ⟨rfl, oB339⟩
theorem oB337 : ∀ w ∈ wB337, goodWord w = true := List.forall_mem_cons.mpr ⟨rfl, oB338⟩
theorem oB336 : ∀ w ∈ wB336, goodWord w = true := List.forall_mem_cons.mpr ⟨rfl, oB337⟩
theorem oB335 : ∀ w ∈ wB335, goodWord w = true := List.forall_mem_cons.mpr ⟨rfl, oB336⟩
theorem oB334 : ∀ w ∈ wB334, goodWord w = true := List.forall_mem_cons.mpr ⟨rfl, oB335⟩
theorem oB333 : ∀ w ∈ wB333, goodWord w = true := List.forall_mem_cons.mpr ⟨rfl, oB334⟩
theorem oB332 : ∀ w ∈ wB332, goodWord w = true := List.forall_mem_cons.mpr ⟨rfl, oB333⟩
theorem oB331 : ∀ w ∈ wB331, goodWord w = true := List.forall_mem_cons.mpr ⟨rfl, oB332⟩
theorem oB330 : ∀ w ∈ wB330, goodWord w = true := List.forall_mem_cons.mpr ⟨rfl, oB331⟩
theorem oB329 : ∀ w ∈ wB329, goodWord w = true := List.forall_mem_cons.mpr ⟨rfl, oB330⟩
theorem oB328 : ∀ w ∈ wB328, goodWord w = true := List.forall_mem_cons.mpr ⟨rfl, oB329⟩
theorem oB327 : ∀ w ∈ wB327, goodWord w = true := List.forall_mem_cons.mpr ⟨rfl, oB328⟩
theorem oB326 : ∀ w ∈ wB326, goodWord w = true := List.forall_mem_cons.mpr ⟨rfl, oB327⟩
theorem oB325 : ∀ w ∈ wB325, goodWord w = true := List.forall_mem_cons.mpr ⟨rfl, oB326⟩
theorem oB324 : ∀ w ∈ wB324, goodWord w = true := List.forall_mem_cons.mpr ⟨rfl, oB325⟩
theorem oB323 : ∀ w ∈ wB323, goodWord w = true := List.forall_mem_cons.mpr ⟨rfl, oB324⟩
theorem oB322 : ∀ w ∈ wB322, goodWord w = true := List.forall_mem_cons.mpr ⟨rfl, oB323⟩
theorem oB321 : ∀ w ∈ wB321, goodWord w = true := List.forall_mem_cons.mpr ⟨rfl, oB322⟩
theorem oB320 : ∀ w ∈ wB320, goodWord w = true := List.forall_mem_cons.mpr ⟨rfl, oB321⟩
theorem oB319 : ∀ w ∈ wB319, goodWord w = true := List.forall_mem_cons.mpr ⟨rfl, oB320⟩
theorem oB318 : ∀ w ∈ wB318, goodWord w = true := List.forall_mem_cons.mpr ⟨rfl, oB319⟩
theorem oB317 : ∀ w ∈ wB317, goodWord w = true := List.forall_mem_cons.mpr ⟨rfl, oB318⟩
theorem oB316 : ∀ w ∈ wB316, goodWord w = true := List.forall_mem_cons.mpr ⟨rfl, oB317⟩
theorem oB315 : ∀ w ∈ wB315, goodWord w = true := List.forall_mem_cons.mpr ⟨rfl, oB316⟩
theorem oB314 : ∀ w ∈ wB314, goodWord w = true := List.forall_mem_cons.mpr ⟨rfl, oB315⟩
theorem oB313 : ∀ w ∈ wB313, goodWord w = true := List.forall_mem_cons.mpr ⟨rfl, oB314⟩
theorem oB312 : ∀ w ∈ wB312, goodWord w = true := List.forall_mem_cons.mpr ⟨rfl, oB313⟩
theorem oB311 : ∀ w ∈ wB311, goodWord w = true := List.forall_mem_cons.mpr ⟨rfl, oB312⟩
theorem oB310 : ∀ w ∈ wB310, goodWord w = true := List.forall_mem_cons.mpr ⟨rfl, oB311⟩
theorem oB309 : ∀ w ∈ wB309, goodWord w = true := List.forall_mem_cons.mpr ⟨rfl, oB310⟩
theorem oB308 : ∀ w ∈ wB308, goodWord w = true := List.forall_mem_cons.mpr ⟨rfl, oB309⟩
theorem oB307 : ∀ w ∈ wB307, goodWord w = true := List.forall_mem_cons.mpr ⟨rfl, oB308⟩
theorem oB306 : ∀ w ∈ wB306, goodWord w = true := List.forall_mem_cons.mpr ⟨rfl, oB307⟩
theorem oB305 : ∀ w ∈ wB305, goodWord w = true := List.forall_mem_cons.mpr ⟨rfl, oB306⟩
theorem oB304 : ∀ w ∈ wB304, goodWord w = true := List.forall_mem_cons.mpr ⟨rfl, oB305⟩
theorem oB303 : ∀ w ∈ wB303, goodWord w = true := List.forall_mem_cons.mpr ⟨rfl, oB304⟩
theorem oB302 : ∀ w ∈ wB302, goodWord w = true := List.forall_mem_cons.mpr ⟨rfl, oB303⟩
theorem oB301 : ∀ w ∈ wB301, goodWord w = true := List.forall_mem_cons.mpr ⟨rfl, oB302⟩
theorem oB300 : ∀ w ∈ wB300, goodWord w = true := List.forall_mem_cons.mpr ⟨rfl, oB301⟩
theorem oB299 : ∀ w ∈ wB299, goodWord w = true := List.forall_mem_cons.mpr ⟨rfl, oB300⟩
theorem oB298 : ∀ w ∈ wB298, goodWord w = true := List.forall_mem_cons.mpr ⟨rfl, oB299⟩
theorem oB297 : ∀ w ∈ wB297, goodWord w = true := List.forall_mem_cons.mpr ⟨rfl, oB298⟩
theorem oB296 : ∀ w ∈ wB296, goodWord w = true := List.forall_mem_cons.mpr ⟨rfl, oB297⟩
theorem oB295 : ∀ w ∈ wB295, goodWord w = true := List.forall_mem_cons.mpr ⟨rfl, oB296⟩
theorem oB294 : ∀ w ∈ wB294, goodWord w = true := List.forall_mem_cons.mpr ⟨rfl, oB295⟩
theorem oB293 : ∀ w ∈ wB293, goodWord w = true := List.forall_mem_cons.mpr ⟨rfl, oB294⟩
theorem oB292 : ∀ w ∈ wB292, goodWord w = true := List.forall_mem_cons.mpr ⟨rfl, oB293⟩
theorem oB291 : ∀ w ∈ wB291, goodWord w = true := List.forall_mem_cons.mpr ⟨rfl, oB292⟩
theorem oB290 : ∀ w ∈ wB290, goodWord w = true := List.forall_mem_cons.mpr ⟨rfl, oB291⟩
theorem oB289 : ∀ w ∈ wB289, goodWord w = true := List.forall_mem_cons.mpr ⟨rfl, oB290⟩
theorem oB288 : ∀ w ∈ wB288, goodWord w = true := List.forall_mem_cons.mpr ⟨rfl, oB289⟩
theorem oB287 : ∀ w ∈ wB287, goodWord w = true := List.forall_mem_cons.mpr ⟨rfl, oB288⟩
theorem oB286 : ∀ w ∈ wB286, goodWord w = true := List.forall_mem_cons.mpr ⟨rfl, oB287⟩
theorem oB285 : ∀ w ∈ wB285, goodWord w = true := List.forall_mem_cons.mpr ⟨rfl, oB286⟩
theorem oB284 : ∀ w ∈ wB284, goodWord w = true := List.forall_mem_cons.mpr ⟨rfl, oB285⟩
theorem oB283 : ∀ w ∈ wB283, goodWord w = true := List.forall_mem_cons.mpr ⟨rfl, oB284⟩
theorem oB282 : ∀ w ∈ wB282, goodWord w = true := List.forall_mem_cons.mpr ⟨rfl, oB283⟩
theorem oB281 : ∀ w ∈ wB281, goodWord w = true := List.forall_mem_cons.mpr ⟨rfl, oB282⟩
theorem oB280 : ∀ w ∈ wB280, goodWord w = true := List.forall_mem_cons.mpr ⟨rfl, oB281⟩
theorem oB279 : ∀ w ∈ wB279, goodWord w = true := List.forall_mem_cons.mpr ⟨rfl, oB280⟩
theorem oB278 : ∀ w ∈ wB278, goodWord w = true := List.forall_mem_cons.mpr ⟨rfl, oB279⟩
theorem oB277 : ∀ w ∈ wB277, goodWord w = true := List.forall_mem_cons.mpr ⟨rfl, oB278⟩
theorem oB276 : ∀ w ∈ wB276, goodWord w = true := List.forall_mem_cons.mpr ⟨rfl, oB277⟩
theorem oB275 : ∀ w ∈ wB275, goodWord w = true := List.forall_mem_cons.mpr ⟨rfl, oB276⟩
theorem oB274 : ∀ w ∈ wB274, goodWord w = true := List.forall_mem_cons.mpr ⟨rfl, oB275⟩
theorem oB273 : ∀ w ∈ wB273, goodWord w = true := List.forall_mem_cons.mpr ⟨rfl, oB274⟩
theorem oB272 : ∀ w ∈ wB272, goodWord w = true := List.forall_mem_cons.mpr ⟨rfl, oB273⟩
theorem oB271 : ∀ w ∈ wB271, goodWord w = true := List.forall_mem_cons.mpr ⟨rfl, oB272⟩
theorem oB270 : ∀ w ∈ wB270, goodWord w = true := List.forall_mem_cons.mpr ⟨rfl, oB271⟩
theorem oB269 : ∀ w ∈ wB269, goodWord w = true := List.forall_mem_cons.mpr ⟨rfl, oB270⟩
theorem oB268 : ∀ w ∈ wB268, goodWord w = true := List.forall_mem_cons.mpr ⟨rfl, oB269⟩
theorem oB267 : ∀ w ∈ wB267, goodWord w = true := List.forall_mem_cons.mpr ⟨rfl, oB268⟩
theorem oB266 : ∀ w ∈ wB266, goodWord w = true := List.forall_mem_cons.mpr ⟨rfl, oB267⟩
theorem oB265 : ∀ w ∈ wB265, goodWord w = true := List.forall_mem_cons.mpr ⟨rfl, oB266⟩
theorem oB264 : ∀ w ∈ wB264, goodWord w = true := List.forall_mem_cons.mpr ⟨rfl, oB265⟩
theorem oB263 : ∀ w ∈ wB263, goodWord w = true := List.forall_mem_cons.mpr ⟨rfl, oB264⟩
theorem oB262 : ∀ w ∈ wB262, goodWord w = true := List.forall_mem_cons.mpr ⟨rfl, oB263⟩
theorem oB261 : ∀ w ∈ wB261, goodWord w = true := List.forall_mem_cons.mpr ⟨rfl, oB262⟩
theorem oB260 : ∀ w ∈ wB260, goodWord w = true := List.forall_mem_cons.mpr ⟨rfl, oB261⟩
theorem oB259 : ∀ w ∈ wB259, goodWord w = true := List.forall_mem_cons.mpr ⟨rfl, oB260⟩
theorem oB258 : ∀ w ∈ wB258, goodWord w = true := List.forall_mem_cons.mpr ⟨rfl, oB259⟩
theorem oB257 : ∀ w ∈ wB257, goodWord w = true := List.forall_mem_cons.mpr ⟨rfl, oB258⟩
theorem oB256 : ∀ w ∈ wB256, goodWord w = true := List.forall_mem_cons.mpr ⟨rfl, oB257⟩
theorem oB255 : ∀ w ∈ wB255, goodWord w = true := List.forall_mem_cons.mpr ⟨rfl, oB256⟩
theorem oB254 : ∀ w ∈ wB254, goodWord w = true := List.forall_mem_cons.mpr ⟨rfl, oB255⟩
theorem oB253 : ∀ w ∈ wB253, goodWord w = true := List.forall_mem_cons.mpr ⟨rfl, oB254⟩
theorem oB252 : ∀ w ∈ wB252, goodWord w = true := List.forall_mem_cons.mpr ⟨rfl, oB253⟩
theorem oB251 : ∀ w ∈ wB251, goodWord w = true := List.forall_mem_cons.mpr ⟨rfl, oB252⟩
theorem oB250 : ∀ w ∈ wB250, goodWord w = true := List.forall_mem_cons.mpr ⟨rfl, oB251⟩
theorem oB249 : ∀ w ∈ wB249, goodWord w = true := List.forall_mem_cons.mpr ⟨rfl, oB250⟩
theorem oB248 : ∀ w ∈ wB248, goodWord w = true := List.forall_mem_cons.mpr ⟨rfl, oB249⟩
theorem oB247 : ∀ w ∈ wB247, goodWord w = true := List.forall_mem_cons.mpr ⟨rfl, oB248⟩
theorem oB246 : ∀ w ∈ wB246, goodWord w = true := List.forall_mem_cons.mpr ⟨rfl, oB247⟩
theorem oB245 : ∀ w ∈ wB245, goodWord w = true := List.forall_mem_cons.mpr ⟨rfl, oB246⟩
theorem oB244 : ∀ w ∈ wB244, goodWord w = true := List.forall_mem_cons.mpr ⟨rfl, oB245⟩
theorem oB243 : ∀ w ∈ wB243, goodWord w = true := List.forall_mem_cons.mpr ⟨rfl, oB244⟩
theorem oB242 : ∀ w ∈ wB242, goodWord w = true := List.forall_mem_cons.mpr ⟨rfl, oB243⟩
theorem oB241 : ∀ w ∈ wB241, goodWord w = true := List.forall_mem_cons.mpr ⟨rfl, oB242⟩
theorem oB240 : ∀ w ∈ wB240, goodWord w = true := List.forall_mem_cons.mpr ⟨rfl, oB241⟩
theorem oB239 : ∀ w ∈ wB239, goodWord w = true := List.forall_mem_cons.mpr ⟨rfl, oB240⟩
theorem oB238 : ∀ w ∈ wB238, goodWord w = true := List.forall_mem_cons.mpr ⟨rfl, oB239⟩
theorem oB237 : ∀ w ∈ wB237, goodWord w = true := List.forall_mem_cons.mpr ⟨rfl, oB238⟩
theorem oB236 : ∀ w ∈ wB236, goodWord w = true := List.forall_mem_cons.mpr ⟨rfl, oB237⟩
theorem oB235 : ∀ w ∈ wB235, goodWord w = true := List.forall_mem_cons.mpr ⟨rfl, oB236⟩
theorem oB234 : ∀ w ∈ wB234, goodWord w = true := List.forall_mem_cons.mpr ⟨rfl, oB235⟩
theorem oB233 : ∀ w ∈ wB233, goodWord w = true := List.forall_mem_cons.mpr ⟨rfl, oB234⟩
theorem oB232 : ∀ w ∈ wB232, goodWord w = true := List.forall_mem_cons.mpr ⟨rfl, oB233⟩
theorem oB231 : ∀ w ∈ wB231, goodWord w = true := List.forall_mem_cons.mpr ⟨rfl, oB232⟩
theorem oB230 : ∀ w ∈ wB230, goodWord w = true := List.forall_mem_cons.mpr ⟨rfl, oB231⟩
theorem oB229 : ∀ w ∈ wB229, goodWord w = true := List.forall_mem_cons.mpr ⟨rfl, oB230⟩
theorem oB228 : ∀ w ∈ wB228, goodWord w = true := List.forall_mem_cons.mpr ⟨rfl, oB229⟩
theorem oB227 : ∀ w ∈ wB227, goodWord w = true := List.forall_mem_cons.mpr ⟨rfl, oB228⟩
theorem oB226 : ∀ w ∈ wB226, goodWord w = true := List.forall_mem_cons.mpr ⟨rfl, oB227⟩
theorem oB225 : ∀ w ∈ wB225, goodWord w = true := List.forall_mem_cons.mpr ⟨rfl, oB226⟩
theorem oB224 : ∀ w ∈ wB224, goodWord w = true := List.forall_mem_cons.mpr ⟨rfl, oB225⟩
theorem oB223 : ∀ w ∈ wB223, goodWord w = true := List.forall_mem_cons.mpr ⟨rfl, oB224⟩
theorem oB222 : ∀ w ∈ wB222, goodWord w = true := List.forall_mem_cons.mpr ⟨rfl, oB223⟩
theorem oB221 : ∀ w ∈ wB221, goodWord w = true := List.forall_mem_cons.mpr ⟨rfl, oB222⟩
theorem oB220 : ∀ w ∈ wB220, goodWord w = true := List.forall_mem_cons.mpr ⟨rfl, oB221⟩
theorem oB219 : ∀ w ∈ wB219, goodWord w = true := List.forall_mem_cons.mpr ⟨rfl, oB220⟩
theorem oB218 : ∀ w ∈ wB218, goodWord w = true := List.forall_mem_cons.mpr ⟨rfl, oB219⟩
theorem oB217 : ∀ w ∈ wB217, goodWord w = true := List.forall_mem_cons.mpr ⟨rfl, oB218⟩
theorem oB216 : ∀ w ∈ wB216, goodWord w = true := List.forall_mem_cons.mpr ⟨rfl, oB217⟩
theorem oB215 : ∀ w ∈ wB215, goodWord w = true := List.forall_mem_cons.mpr ⟨rfl, oB216⟩
theorem oB214 : ∀ w ∈ wB214, goodWord w = true := List.forall_mem_cons.mpr ⟨rfl, oB215⟩
theorem oB213 : ∀ w ∈ wB213, goodWord w = true := List.forall_mem_cons.mpr ⟨rfl, oB214⟩
theorem oB212 : ∀ w ∈ wB212, goodWord w = true := List.forall_mem_cons.mpr ⟨rfl, oB213⟩
theorem oB211 : ∀ w ∈ wB211, goodWord w = true := List.forall_mem_cons.mpr ⟨rfl, oB212⟩
theorem oB210 : ∀ w ∈ wB210, goodWord w = true := List.forall_mem_cons.mpr ⟨rfl, oB211⟩
theorem oB209 : ∀ w ∈ wB209, goodWord w = true := List.forall_mem_cons.mpr ⟨rfl, oB210⟩
theorem oB208 : ∀ w ∈ wB208, goodWord w = true := List.forall_mem_cons.mpr ⟨rfl, oB209⟩
theorem oB207 : ∀ w ∈ wB207, goodWord w = true := List.forall_mem_cons.mpr ⟨rfl, oB208⟩
theorem oB206 : ∀ w ∈ wB206, goodWord w = true := List.forall_mem_cons.mpr ⟨rfl, oB207⟩
theorem oB205 : ∀ w ∈ wB205, goodWord w = true := List.forall_mem_cons.mpr ⟨rfl, oB206⟩
theorem oB204 : ∀ w ∈ wB204, goodWord w = true := List.forall_mem_cons.mpr ⟨rfl, oB205⟩
theorem oB203 : ∀ w ∈ wB203, goodWord w = true := List.forall_mem_cons.mpr ⟨rfl, oB204⟩
theorem oB202 : ∀ w ∈ wB202, goodWord w = true := List.forall_mem_cons.mpr ⟨rfl, oB203⟩
theorem oB201 : ∀ w ∈ wB201, goodWord w = true := List.forall_mem_cons.mpr ⟨rfl, oB202⟩
theorem oB200 : ∀ w ∈ wB200, goodWord w = true := List.forall_mem_cons.mpr ⟨rfl, oB201⟩
theorem oB199 : ∀ w ∈ wB199, goodWord w = true := List.forall_mem_cons.mpr ⟨rfl, oB200⟩
theorem oB198 : ∀ w ∈ wB198, goodWord w = true := List.forall_mem_cons.mpr ⟨rfl, oB199⟩
theorem oB197 : ∀ w ∈ wB197, goodWord w = true := List.forall_mem_cons.mpr ⟨rfl, oB198⟩
theorem oB196 : ∀ w ∈ wB196, goodWord w = true := List.forall_mem_cons.mpr ⟨rfl, oB197⟩
theorem oB195 : ∀ w ∈ wB195, goodWord w = true := List.forall_mem_cons.mpr ⟨rfl, oB196⟩
theorem oB194 : ∀ w ∈ wB194, goodWord w = true := List.forall_mem_cons.mpr ⟨rfl, oB195⟩
theorem oB193 : ∀ w ∈ wB193, goodWord w = true := List.forall_mem_cons.mpr ⟨rfl, oB194⟩
theorem oB192 : ∀ w ∈ wB192, goodWord w = true := List.forall_mem_cons.mpr ⟨rfl, oB193⟩
theorem oB191 : ∀ w ∈ wB191, goodWord w = true := List.forall_mem_cons.mpr ⟨rfl, oB192⟩
theorem oB190 : ∀ w ∈ wB190, goodWord w = true := List.forall_mem_cons.mpr ⟨rfl, oB191⟩
theorem oB189 : ∀ w ∈ wB189, goodWord w = true := List.forall_mem_cons.mpr ⟨rfl, oB190⟩
theorem oB188 : ∀ w ∈ wB188, goodWord w = true := List.forall_mem_cons.mpr ⟨rfl, oB189⟩
theorem oB187 : ∀ w ∈ wB187, goodWord w = true := List.forall_mem_cons.mpr ⟨rfl, oB188⟩
theorem oB186 : ∀ w ∈ wB186, goodWord w = true := List.forall_mem_cons.mpr ⟨rfl, oB187⟩
theorem oB185 : ∀ w ∈ wB185, goodWord w = true := List.forall_mem_cons.mpr ⟨rfl, oB186⟩
theorem oB184 : ∀ w ∈ wB184, goodWord w = true := List.forall_mem_cons.mpr ⟨rfl, oB185⟩
theorem oB183 : ∀ w ∈ wB183, goodWord w = true := List.forall_mem_cons.mpr ⟨rfl, oB184⟩
theorem oB182 : ∀ w ∈ wB182, goodWord w = true := List.forall_mem_cons.mpr ⟨rfl, oB183⟩
theorem oB181 : ∀ w ∈ wB181, goodWord w = true := List.forall_mem_cons.mpr ⟨rfl, oB182⟩
theorem oB180 : ∀ w ∈ wB180, goodWord w = true := List.forall_mem_cons.mpr ⟨rfl, oB181⟩
theorem oB179 : ∀ w ∈ wB179, goodWord w = true := List.forall_mem_cons.mpr ⟨rfl, oB180⟩
theorem oB178 : ∀ w ∈ wB178, goodWord w = true := List.forall_mem_cons.mpr ⟨rfl, oB179⟩
theorem oB177 : ∀ w ∈ wB177, goodWord w = true := List.forall_mem_cons.mpr ⟨rfl, oB178⟩
theorem oB176 : ∀ w ∈ wB176, goodWord w = true := List.forall_mem_cons.mpr ⟨rfl, oB177⟩
theorem oB175 : ∀ w ∈ wB175, goodWord w = true := List.forall_mem_cons.mpr ⟨rfl, oB176⟩
theorem oB174 : ∀ w ∈ wB174, goodWord w = true := List.forall_mem_cons.mpr ⟨rfl, oB175⟩
theorem oB173 : ∀ w ∈ wB173, goodWord w = true := List.forall_mem_cons.mpr ⟨rfl, oB174⟩
theorem oB172 : ∀ w ∈ wB172, goodWord w = true := List.forall_mem_cons.mpr ⟨rfl, oB173⟩
theorem oB171 : ∀ w ∈ wB171, goodWord w = true := List.forall_mem_cons.mpr ⟨rfl, oB172⟩
theorem oB170 : ∀ w ∈ wB170, goodWord w = true := List.forall_mem_cons.mpr ⟨rfl, oB171⟩
theorem oB169 : ∀ w ∈ wB169, goodWord w = true := List.forall_mem_cons.mpr ⟨rfl, oB170⟩
theorem oB168 : ∀ w ∈ wB168, goodWord w = true := List.forall_mem_cons.mpr ⟨rfl, oB169⟩
theorem oB167 : ∀ w ∈ wB167, goodWord w = true := List.forall_mem_cons.mpr ⟨rfl, oB168⟩
theorem oB166 : ∀ w ∈ wB166, goodWord w = true := List.forall_mem_cons.mpr ⟨rfl, oB167⟩
theorem oB165 : ∀ w ∈ wB165, goodWord w = true := List.forall_mem_cons.mpr ⟨rfl, oB166⟩
theorem oB164 : ∀ w ∈ wB164, goodWord w = true := List.forall_mem_cons.mpr ⟨rfl, oB165⟩
theorem oB163 : ∀ w ∈ wB163, goodWord w = true := List.forall_mem_cons.mpr ⟨rfl, oB164⟩
theorem oB162 : ∀ w ∈ wB162, goodWord w = true := List.forall_mem_cons.mpr ⟨rfl, oB163⟩
theorem oB161 : ∀ w ∈ wB161, goodWord w = true := List.forall_mem_cons.mpr ⟨rfl, oB162⟩
theorem oB160 : ∀ w ∈ wB160, goodWord w = true := List.forall_mem_cons.mpr ⟨rfl, oB161⟩
theorem oB159 : ∀ w ∈ wB159, goodWord w = true := List.forall_mem_cons.mpr ⟨rfl, oB160⟩
theorem oB158 : ∀ w ∈ wB158, goodWord w = true := List.forall_mem_cons.mpr ⟨rfl, oB159⟩
theorem oB157 : ∀ w ∈ wB157, goodWord w = true := List.forall_mem_cons.mpr ⟨rfl, oB158⟩
theorem oB156 : ∀ w ∈ wB156, goodWord w = true := List.forall_mem_cons.mpr ⟨rfl, oB157⟩
theorem oB155 : ∀ w ∈ wB155, goodWord w = true := List.forall_mem_cons.mpr ⟨rfl, oB156⟩
theorem oB154 : ∀ w ∈ wB154, goodWord w = true := List.forall_mem_cons.mpr ⟨rfl, oB155⟩
theorem oB153 : ∀ w ∈ wB153, goodWord w = true := List.forall_mem_cons.mpr ⟨rfl, oB154⟩
theorem oB152 : ∀ w ∈ wB152, goodWord w = true := List.forall_mem_cons.mpr ⟨rfl, oB153⟩
theorem oB151 : ∀ w ∈ wB151, goodWord w = true := List.forall_mem_cons.mpr ⟨rfl, oB152⟩
theorem oB150 : ∀ w ∈ wB150, goodWord w = true := List.forall_mem_cons.mpr ⟨rfl, oB151⟩
theorem oB149 : ∀ w ∈ wB149, goodWord w = true := List.forall_mem_cons.mpr ⟨rfl, oB150⟩
theorem oB148 : ∀ w ∈ wB148, goodWord w = true := List.forall_mem_cons.mpr ⟨rfl, oB149⟩
theorem oB147 : ∀ w ∈ wB147, goodWord w = true := List.forall_mem_cons.mpr ⟨rfl, oB148⟩
theorem oB146 : ∀ w ∈ wB146, goodWord w = true := List.forall_mem_cons.mpr ⟨rfl, oB147⟩
theorem oB145 : ∀ w ∈ wB145, goodWord w = true := List.forall_mem_cons.mpr ⟨rfl, oB146⟩
theorem oB144 : ∀ w ∈ wB144, goodWord w = true := List.forall_mem_cons.mpr ⟨rfl, oB145⟩
theorem oB143 : ∀ w ∈ wB143, goodWord w = true := List.forall_mem_cons.mpr ⟨rfl, oB144⟩
theorem oB142 : ∀ w ∈ wB142, goodWord w = true := List.forall_mem_cons.mpr ⟨rfl, oB143⟩
theorem oB141 : ∀ w ∈ wB141, goodWord w = true := List.forall_mem_cons.mpr ⟨rfl, oB142⟩
theorem oB140 : ∀ w ∈ wB140, goodWord w = true := List.forall_mem_cons.mpr ⟨rfl, oB141⟩
theorem oB139 : ∀ w ∈ wB139, goodWord w = true := List.forall_mem_cons.mpr ⟨rfl, oB140⟩
theorem oB138 : ∀ w ∈ wB138, goodWord w = true := List.forall_mem_cons.mpr ⟨rfl, oB139⟩
theorem oB137 : ∀ w ∈ wB137, goodWord w = true := List.forall_mem_cons.mpr ⟨rfl, oB138⟩
theorem oB136 : ∀ w ∈ wB136, goodWord w = true := List.forall_mem_cons.mpr ⟨rfl, oB137⟩
theorem oB135 : ∀ w ∈ wB135, goodWord w = true := List.forall_mem_cons.mpr ⟨rfl, oB136⟩
theorem oB134 : ∀ w ∈ wB134, goodWord w = true := List.forall_mem_cons.mpr ⟨rfl, oB135⟩
theorem oB133 : ∀ w ∈ wB133, goodWord w = true := List.forall_mem_cons.mpr ⟨rfl, oB134⟩
theorem oB132 : ∀ w ∈ wB132, goodWord w = true := List.forall_mem_cons.mpr ⟨rfl, oB133⟩
theorem oB131 : ∀ w ∈ wB131, goodWord w = true := List.forall_mem_cons.mpr ⟨rfl, oB132⟩
theorem oB130 : ∀ w ∈ wB130, goodWord w = true := List.forall_mem_cons.mpr ⟨rfl, oB131⟩
theorem oB129 : ∀ w ∈ wB129, goodWord w = true := List.forall_mem_cons.mpr ⟨rfl, oB130⟩
theorem oB128 : ∀ w ∈ wB128, goodWord w = true := List.forall_mem_cons.mpr ⟨rfl, oB129⟩
theorem oB127 : ∀ w ∈ wB127, goodWord w = true := List.forall_mem_cons.mpr ⟨rfl, oB128⟩
theorem oB126 : ∀ w ∈ wB126, goodWord w = true := List.forall_mem_cons.mpr ⟨rfl, oB127⟩
theorem oB125 : ∀ w ∈ wB125, goodWord w = true := List.forall_mem_cons.mpr ⟨rfl, oB126⟩
theorem oB124 : ∀ w ∈ wB124, goodWord w = true := List.forall_mem_cons.mpr ⟨rfl, oB125⟩
theorem oB123 : ∀ w ∈ wB123, goodWord w = true := List.forall_mem_cons.mpr ⟨rfl, oB124⟩
theorem oB122 : ∀ w ∈ wB122, goodWord w = true := List.forall_mem_cons.mpr ⟨rfl, oB123⟩
theorem oB121 : ∀ w ∈ wB121, goodWord w = true := List.forall_mem_cons.mpr ⟨rfl, oB122⟩
theorem oB120 : ∀ w ∈ wB120, goodWord w = true := List.forall_mem_cons.mpr ⟨rfl, oB121⟩
theorem oB119 : ∀ w ∈ wB119, goodWord w = true := List.forall_mem_cons.mpr ⟨rfl, oB120⟩
theorem oB118 : ∀ w ∈ wB118, goodWord w = true := List.forall_mem_cons.mpr ⟨rfl, oB119⟩
theorem oB117 : ∀ w ∈ wB117, goodWord w = true := List.forall_mem_cons.mpr ⟨rfl, oB118⟩
theorem oB116 : ∀ w ∈ wB116, goodWord w = true := List.forall_mem_cons.mpr ⟨rfl, oB117⟩
theorem oB115 : ∀ w ∈ wB115, goodWord w = true := List.forall_mem_cons.mpr ⟨rfl, oB116⟩
theorem oB114 : ∀ w ∈ wB114, goodWord w = true := List.forall_mem_cons.mpr ⟨rfl, oB115⟩
theorem oB113 : ∀ w ∈ wB113, goodWord w = true := List.forall_mem_cons.mpr ⟨rfl, oB114⟩
theorem oB112 : ∀ w ∈ wB112, goodWord w = true := List.forall_mem_cons.mpr ⟨rfl, oB113⟩
theorem oB111 : ∀ w ∈ wB111, goodWord w = true := List.forall_mem_cons.mpr ⟨rfl, oB112⟩
theorem oB110 : ∀ w ∈ wB110, goodWord w = true := List.forall_mem_cons.mpr ⟨rfl, oB111⟩
theorem oB109 : ∀ w ∈ wB109, goodWord w = true := List.forall_mem_cons.mpr ⟨rfl, oB110⟩
theorem oB108 : ∀ w ∈ wB108, goodWord w = true := List.forall_mem_cons.mpr ⟨rfl, oB109⟩
theorem oB107 : ∀ w ∈ wB107, goodWord w = true := List.forall_mem_cons.mpr ⟨rfl, oB108⟩
theorem oB106 : ∀ w ∈ wB106, goodWord w = true := List.forall_mem_cons.mpr ⟨rfl, oB107⟩
theorem oB105 : ∀ w ∈ wB105, goodWord w = true := List.forall_mem_cons.mpr ⟨rfl, oB106⟩
theorem oB104 : ∀ w ∈ wB104, goodWord w = true := List.forall_mem_cons.mpr ⟨rfl, oB105⟩
theorem oB103 : ∀ w ∈ wB103, goodWord w = true := List.forall_mem_cons.mpr ⟨rfl, oB104⟩
theorem oB102 : ∀ w ∈ wB102, goodWord w = true := List.forall_mem_cons.mpr ⟨rfl, oB103⟩
theorem oB101 : ∀ w ∈ wB101, goodWord w = true := List.forall_mem_cons.mpr ⟨rfl, oB102⟩
theorem oB100 : ∀ w ∈ wB100, goodWord w = true := List.forall_mem_cons.mpr ⟨rfl, oB101⟩
theorem oB99 : ∀ w ∈ wB99, goodWord w = true := List.forall_mem_cons.mpr ⟨rfl, oB100⟩
theorem oB98 : ∀ w ∈ wB98, goodWord w = true := List.forall_mem_cons.mpr ⟨rfl, oB99⟩
theorem oB97 : ∀ w ∈ wB97, goodWord w = true := List.forall_mem_cons.mpr ⟨rfl, oB98⟩
theorem oB96 : ∀ w ∈ wB96, goodWord w = true := List.forall_mem_cons.mpr ⟨rfl, oB97⟩
theorem oB95 : ∀ w ∈ wB95, goodWord w = true := List.forall_mem_cons.mpr ⟨rfl, oB96⟩
theorem oB94 : ∀ w ∈ wB94, goodWord w = true := List.forall_mem_cons.mpr ⟨rfl, oB95⟩
theorem oB93 : ∀ w ∈ wB93, goodWord w = true := List.forall_mem_cons.mpr ⟨rfl, oB94⟩
theorem oB92 : ∀ w ∈ wB92, goodWord w = true := List.forall_mem_cons.mpr ⟨rfl, oB93⟩
theorem oB91 : ∀ w ∈ wB91, goodWord w = true := List.forall_mem_cons.mpr ⟨rfl, oB92⟩
theorem oB90 : ∀ w ∈ wB90, goodWord w = true := List.forall_mem_cons.mpr ⟨rfl, oB91⟩
theorem oB89 : ∀ w ∈ wB89, goodWord w = true := List.forall_mem_cons.mpr ⟨rfl, oB90⟩
theorem oB88 : ∀ w ∈ wB88, goodWord w = true := List.forall_mem_cons.mpr ⟨rfl, oB89⟩
theorem oB87 : ∀ w ∈ wB87, goodWord w = true := List.forall_mem_cons.mpr ⟨rfl, oB88⟩
theorem oB86 : ∀ w ∈ wB86, goodWord w = true := List.forall_mem_cons.mpr ⟨rfl, oB87⟩
theorem oB85 : ∀ w ∈ wB85, goodWord w = true := List.forall_mem_cons.mpr ⟨rfl, oB86⟩
theorem oB84 : ∀ w ∈ wB84, goodWord w = true := List.forall_mem_cons.mpr ⟨rfl, oB85⟩
theorem oB83 : ∀ w ∈ wB83, goodWord w = true := List.forall_mem_cons.mpr ⟨rfl, oB84⟩
theorem oB82 : ∀ w ∈ wB82, goodWord w = true := List.forall_mem_cons.mpr ⟨rfl, oB83⟩
theorem oB81 : ∀ w ∈ wB81, goodWord w = true := List.forall_mem_cons.mpr ⟨rfl, oB82⟩
theorem oB80 : ∀ w ∈ wB80, goodWord w = true := List.forall_mem_cons.mpr ⟨rfl, oB81⟩
theorem oB79 : ∀ w ∈ wB79, goodWord w = true := List.forall_mem_cons.mpr ⟨rfl, oB80⟩
theorem oB78 : ∀ w ∈ wB78, goodWord w = true := List.forall_mem_cons.mpr ⟨rfl, oB79⟩
theorem oB77 : ∀ w ∈ wB77, goodWord w = true := List.forall_mem_cons.mpr ⟨rfl, oB78⟩
theorem oB76 : ∀ w ∈ wB76, goodWord w = true := List.forall_mem_cons.mpr ⟨rfl, oB77⟩
theorem oB75 : ∀ w ∈ wB75, goodWord w = true := List.forall_mem_cons.mpr ⟨rfl, oB76⟩
theorem oB74 : ∀ w ∈ wB74, goodWord w = true := List.forall_mem_cons.mpr ⟨rfl, oB75⟩
theorem oB73 : ∀ w ∈ wB73, goodWord w = true := List.forall_mem_cons.mpr ⟨rfl, oB74⟩
theorem oB72 : ∀ w ∈ wB72, goodWord w = true := List.forall_mem_cons.mpr ⟨rfl, oB73⟩
theorem oB71 : ∀ w ∈ wB71, goodWord w = true := List.forall_mem_cons.mpr ⟨rfl, oB72⟩
theorem oB70 : ∀ w ∈ wB70, goodWord w = true := List.forall_mem_cons.mpr ⟨rfl, oB71⟩
theorem oB69 : ∀ w ∈ wB69, goodWord w = true := List.forall_mem_cons.mpr ⟨rfl, oB70⟩
theorem oB68 : ∀ w ∈ wB68, goodWord w = true := List.forall_mem_cons.mpr ⟨rfl, oB69⟩
theorem oB67 : ∀ w ∈ wB67, goodWord w = true := List.forall_mem_cons.mpr ⟨rfl, oB68⟩
theorem oB66 : ∀ w ∈ wB66, goodWord w = true := List.forall_mem_cons.mpr ⟨rfl, oB67⟩
theorem oB65 : ∀ w ∈ wB65, goodWord w = true := List.forall_mem_cons.mpr ⟨rfl, oB66⟩
theorem oB64 : ∀ w ∈ wB64, goodWord w = true := List.forall_mem_cons.mpr ⟨rfl, oB65⟩
theorem oB63 : ∀ w ∈ wB63, goodWord w = true := List.forall_mem_cons.mpr ⟨rfl, oB64⟩
theorem oB62 : ∀ w ∈ wB62, goodWord w = true := List.forall_mem_cons.mpr ⟨rfl, oB63⟩
theorem oB61 : ∀ w ∈ wB61, goodWord w = true := List.forall_mem_cons.mpr ⟨rfl, oB62⟩
theorem oB60 : ∀ w ∈ wB60, goodWord w = true := List.forall_mem_cons.mpr ⟨rfl, oB61⟩
theorem oB59 : ∀ w ∈ wB59, goodWord w = true := List.forall_mem_cons.mpr ⟨rfl, oB60⟩
theorem oB58 : ∀ w ∈ wB58, goodWord w = true := List.forall_mem_cons.mpr ⟨rfl, oB59⟩
theorem oB57 : ∀ w ∈ wB57, goodWord w = true := List.forall_mem_cons.mpr ⟨rfl, oB58⟩
theorem oB56 : ∀ w ∈ wB56, goodWord w = true := List.forall_mem_cons.mpr ⟨rfl, oB57⟩
theorem oB55 : ∀ w ∈ wB55, goodWord w = true := List.forall_mem_cons.mpr ⟨rfl, oB56⟩
theorem oB54 : ∀ w ∈ wB54, goodWord w = true := List.forall_mem_cons.mpr ⟨rfl, oB55⟩
theorem oB53 : ∀ w ∈ wB53, goodWord w = true := List.forall_mem_cons.mpr ⟨rfl, oB54⟩
theorem oB52 : ∀ w ∈ wB52, goodWord w = true := List.forall_mem_cons.mpr ⟨rfl, oB53⟩
theorem oB51 : ∀ w ∈ wB51, goodWord w = true := List.forall_mem_cons.mpr ⟨rfl, oB52⟩
theorem oB50 : ∀ w ∈ wB50, goodWord w = true := List.forall_mem_cons.mpr ⟨rfl, oB51⟩
theorem oB49 : ∀ w ∈ wB49, goodWord w = true := List.forall_mem_cons.mpr ⟨rfl, oB50⟩
theorem oB48 : ∀ w ∈ wB48, goodWord w = true := List.forall_mem_cons.mpr ⟨rfl, oB49⟩
theorem oB47 : ∀ w ∈ wB47, goodWord w = true := List.forall_mem_cons.mpr ⟨rfl, oB48⟩
theorem oB46 : ∀ w ∈ wB46, goodWord w = true := List.forall_mem_cons.mpr ⟨rfl, oB47⟩
theorem oB45 : ∀ w ∈ wB45, goodWord w = true := List.forall_mem_cons.mpr ⟨rfl, oB46⟩
theorem oB44 : ∀ w ∈ wB44, goodWord w = true := List.forall_mem_cons.mpr ⟨rfl, oB45⟩
theorem oB43 : ∀ w ∈ wB43, goodWord w = true := List.forall_mem_cons.mpr ⟨rfl, oB44⟩
theorem oB42 : ∀ w ∈ wB42, goodWord w = true := List.forall_mem_cons.mpr ⟨rfl, oB43⟩
theorem oB41 : ∀ w ∈ wB41, goodWord w = true := List.forall_mem_cons.mpr ⟨rfl, oB42⟩
theorem oB40 : ∀ w ∈ wB40, goodWord w = true := List.forall_mem_cons.mpr ⟨rfl, oB41⟩
theorem oB39 : ∀ w ∈ wB39, goodWord w = true := List.forall_mem_cons.mpr ⟨rfl, oB40⟩
theorem oB38 : ∀ w ∈ wB38, goodWord w = true := List.forall_mem_cons.mpr ⟨rfl, oB39⟩
theorem oB37 : ∀ w ∈ wB37, goodWord w = true := List.forall_mem_cons.mpr ⟨rfl, oB38⟩
theorem oB36 : ∀ w ∈ wB36, goodWord w = true := List.forall_mem_cons.mpr ⟨rfl, oB37⟩
theorem oB35 : ∀ w ∈ wB35, goodWord w = true := List.forall_mem_cons.mpr ⟨rfl, oB36⟩
theorem oB34 : ∀ w ∈ wB34, goodWord w = true := List.forall_mem_cons.mpr ⟨rfl, oB35⟩
theorem oB33 : ∀ w ∈ wB33, goodWord w = true := List.forall_mem_cons.mpr ⟨rfl, oB34⟩
theorem oB32 : ∀ w ∈ wB32, goodWord w = true := List.forall_mem_cons.mpr ⟨rfl, oB33⟩
theorem oB31 : ∀ w ∈ wB31, goodWord w = true := List.forall_mem_cons.mpr ⟨rfl, oB32⟩
theorem oB30 : ∀ w ∈ wB30, goodWord w = true := List.forall_mem_cons.mpr ⟨rfl, oB31⟩
theorem oB29 : ∀ w ∈ wB29, goodWord w = true := List.forall_mem_cons.mpr ⟨rfl, oB30⟩
theorem oB28 : ∀ w ∈ wB28, goodWord w = true := List.forall_mem_cons.mpr ⟨rfl, oB29⟩
theorem oB27 : ∀ w ∈ wB27, goodWord w = true := List.forall_mem_cons.mpr ⟨rfl, oB28⟩
theorem oB26 : ∀ w ∈ wB26, goodWord w = true := List.forall_mem_cons.mpr ⟨rfl, oB27⟩
theorem oB25 : ∀ w ∈ wB25, goodWord w = true := List.forall_mem_cons.mpr ⟨rfl, oB26⟩
theorem oB24 : ∀ w ∈ wB24, goodWord w = true := List.forall_mem_cons.mpr ⟨rfl, oB25⟩
theorem oB23 : ∀ w ∈ wB23, goodWord w = true := List.forall_mem_cons.mpr ⟨rfl, oB24⟩
theorem oB22 : ∀ w ∈ wB22, goodWord w = true := List.forall_mem_cons.mpr ⟨rfl, oB23⟩
theorem oB21 : ∀ w ∈ wB21, goodWord w = true := List.forall_mem_cons.mpr ⟨rfl, oB22⟩
theorem oB20 : ∀ w ∈ wB20, goodWord w = true := List.forall_mem_cons.mpr ⟨rfl, oB21⟩
theorem oB19 : ∀ w ∈ wB19, goodWord w = true := List.forall_mem_cons.mpr ⟨rfl, oB20⟩
theorem oB18 : ∀ w ∈ wB18, goodWord w = true := List.forall_mem_cons.mpr ⟨rfl, oB19⟩
theorem oB17 : ∀ w ∈ wB17, goodWord w = true := List.forall_mem_cons.mpr ⟨rfl, oB18⟩
theorem oB16 : ∀ w ∈ wB16, goodWord w = true := List.forall_mem_cons.mpr ⟨rfl, oB17⟩
theorem oB15 : ∀ w ∈ wB15, goodWord w = true := List.forall_mem_cons.mpr ⟨rfl, oB16⟩
theorem oB14 : ∀ w ∈ wB14, goodWord w = true := List.forall_mem_cons.mpr ⟨rfl, oB15⟩
theorem oB13 : ∀ w ∈ wB13, goodWord w = true := List.forall_mem_cons.mpr ⟨rfl, oB14⟩
theorem oB12 : ∀ w ∈ wB12, goodWord w = true := List.forall_mem_cons.mpr ⟨rfl, oB13⟩
theorem oB11 : ∀ w ∈ wB11, goodWord w = true := List.forall_mem_cons.mpr ⟨rfl, oB12⟩
theorem oB10 : ∀ w ∈ wB10, goodWord w = true := List.forall_mem_cons.mpr ⟨rfl, oB11⟩
theorem oB9 : ∀ w ∈ wB9, goodWord w = true := List.forall_mem_cons.mpr ⟨rfl, oB10⟩
theorem oB8 : ∀ w ∈ wB8, goodWord w = true := List.forall_mem_cons.mpr ⟨rfl, oB9⟩
theorem oB7 : ∀ w ∈ wB7, goodWord w = true := List.forall_mem_cons.mpr ⟨rfl, oB8⟩
theorem oB6 : ∀ w ∈ wB6, goodWord w = true := List.forall_mem_cons.mpr ⟨rfl, oB7⟩
theorem oB5 : ∀ w ∈ wB5, goodWord w = true := List.forall_mem_cons.mpr ⟨rfl, oB6⟩
theorem oB4 : ∀ w ∈ wB4, goodWord w = true := List.forall_mem_cons.mpr ⟨rfl, oB5⟩
theorem oB3 : ∀ w ∈ wB3, goodWord w = true := List.forall_mem_cons.mpr ⟨rfl, oB4⟩
theorem oB2 : ∀ w ∈ wB2, goodWord w = true := List.forall_mem_cons.mpr ⟨rfl, oB3⟩
theorem oB1 : ∀ w ∈ wB1, goodWord w = true := List.forall_mem_cons.mpr ⟨rfl, oB2⟩
theorem oB0 : ∀ w ∈ wB0, goodWord w = true := List.forall_mem_cons.mpr ⟨rfl, oB1⟩
theorem oX_0 : ∀ w ∈ wsX00, goodWord w = true := by decide +kernel
theorem oX_1 : ∀ w ∈ wsX10, goodWord w = true := by decide +kernel
theorem oX_2 : ∀ w ∈ wsX20, goodWord w = true := by decide +kernel
theorem oX_3 : ∀ w ∈ wsX30, goodWord w = true := by decide +kernel
theorem oX_4 : ∀ w ∈ wsX40, goodWord w = true := by decide +kernel
theorem oX_5 : ∀ w ∈ wsX50, goodWord w = true := by decide +kernel
theorem oX_6 : ∀ w ∈ wsX60, goodWord w = true := by decide +kernel
theorem oAt : ∀ w ∈ wAt, goodWord w = true := by
  intro w h
  unfold wAt at h
  rcases List.mem_append.mp h with h | h
  · exact (List.mem_filter.mp h).2
  · rcases List.mem_append.mp h with h | h
    · exact (List.mem_filter.mp h).2
    · exact (List.mem_filter.mp h).2
theorem oA0 : ∀ w ∈ wA0, goodWord w = true := by
  intro w h
  unfold wA0 at h
  rcases List.mem_append.mp h with h | h
  · exact oX_0 w h
  rcases List.mem_append.mp h with h | h
  · exact oX_1 w h
  rcases List.mem_append.mp h with h | h
  · exact oX_2 w h
  rcases List.mem_append.mp h with h | h
  · exact oX_3 w h
  rcases List.mem_append.mp h with h | h
  · exact oX_4 w h
  rcases List.mem_append.mp h with h | h
  · exact oX_5 w h
  rcases List.mem_append.mp h with h | h
  · exact oX_6 w h
  rcases List.mem_append.mp h with h | h
  · exact oAt w h
  · exact oB0 w h
theorem gooV {c0 c1 : Cond} {own C : String} {idx : Nat} {y : MethodName} (h1 : Cond.methodLink own idx y ∈ wA0) (h2 : Cond.instanceMethod y ∈ wA0) (h3 : Cond.selects C y y ∈ wA0) (h4 : Cond.initialized C ∈ wA0) (h5 : c1 ∈ wA0) : GoodIn (c0 :: wA0) (wsV own idx C y (c1 :: wA0)) := by
  intro w hw
  have hm : w ∈ wA0 := by
    unfold wsV at hw
    rcases List.mem_append.mp hw with h | h
    · simp only [List.mem_cons, List.not_mem_nil, or_false] at h
      rcases h with h | h | h | h <;> (rw [h]; assumption)
    · rcases List.mem_cons.mp h with h | h
      · rw [h]; exact h5
      · exact h
  exact ⟨List.mem_cons_of_mem _ hm, good_of_word (oA0 w hm)⟩
theorem gooS {c0 c1 : Cond} {own : String} {idx : Nat} {y : MethodName} (h1 : Cond.methodLink own idx y ∈ wA0) (h2 : Cond.static y ∈ wA0) (h4 : Cond.initialized y.cls ∈ wA0) (h5 : c1 ∈ wA0) : GoodIn (c0 :: wA0) (va_wsS own idx y (c1 :: wA0)) := by
  intro w hw
  have hm : w ∈ wA0 := by
    unfold va_wsS at hw
    rcases List.mem_append.mp hw with h | h
    · simp only [List.mem_cons, List.not_mem_nil, or_false] at h
      rcases h with h | h | h <;> (rw [h]; assumption)
    · rcases List.mem_cons.mp h with h | h
      · rw [h]; exact h5
      · exact h
  exact ⟨List.mem_cons_of_mem _ hm, good_of_word (oA0 w hm)⟩
