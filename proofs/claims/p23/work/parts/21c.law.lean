set_option maxRecDepth 20000 in
theorem ggL_law_X3_undo : GoodIn wsL_law wsX3_undo := goodIn_r _ [376, 27, 25, 26, 24, 295, 296, 297, 23, 298, 57, 58, 59, 60, 61, 180, 171, 172, 173, 62, 63, 757, 758, 759, 760, 761, 762, 763, 764, 765, 766, 767, 768, 769, 770, 771, 772, 773, 814, 815, 816, 817, 818, 819, 820, 821] rfl (by decide +kernel)
set_option maxRecDepth 20000 in
theorem gL_law_X3_undo : GoodIn wsL_law (wsV RL 56 RX3 yX3_undo wsX3_undo) := goodIn_app (goodIn_r _ [373, 374, 375, 2] rfl (by decide +kernel)) ggL_law_X3_undo
set_option maxRecDepth 20000 in
theorem ggL_law_X4_undo : GoodIn wsL_law wsX4_undo := goodIn_r _ [380, 192, 319, 81, 90, 774, 775, 776, 777, 778, 779, 780, 781, 782, 783, 784, 785, 786, 787, 788, 789, 790, 791, 792, 793, 794, 795, 796, 797, 798, 799, 800, 801, 802, 803] rfl (by decide +kernel)
set_option maxRecDepth 20000 in
theorem gL_law_X4_undo : GoodIn wsL_law (wsV RL 59 RX4 yX4_undo wsX4_undo) := goodIn_app (goodIn_r _ [377, 378, 379, 5] rfl (by decide +kernel)) ggL_law_X4_undo
set_option maxRecDepth 20000 in
theorem ggL_law_X3_where : GoodIn wsL_law wsX3_where := goodIn_r _ [384, 19, 24, 286, 38, 385, 197, 200, 201, 202, 18, 203, 43, 386, 387, 388, 37, 389, 72, 390, 296, 297, 23, 298, 57, 58, 59, 60, 61, 180, 171, 172, 173, 62, 63, 391, 392, 393, 394, 395, 69, 396, 300, 301, 302, 64, 303, 304, 218, 219, 220, 221, 222, 223, 224, 225, 226, 227, 228, 305, 257, 258, 259, 306, 269, 270, 271, 264, 265, 266, 267, 307, 308, 309, 310, 757, 758, 759, 760, 761, 762, 763, 764, 765, 766, 767, 768, 769, 770, 771, 772, 773, 814, 815, 816, 817, 818, 819, 820, 821, 822, 823, 824, 804, 805, 806, 807, 808, 809, 810, 811, 812, 813] rfl (by decide +kernel)
set_option maxRecDepth 20000 in
theorem gL_law_X3_where : GoodIn wsL_law (wsV RL 60 RX3 yX3_where wsX3_where) := goodIn_app (goodIn_r _ [381, 382, 383, 2] rfl (by decide +kernel)) ggL_law_X3_where
set_option maxRecDepth 20000 in
theorem ggL_law_X4_where : GoodIn wsL_law wsX4_where := goodIn_r _ [400, 401, 81, 191, 233, 234, 235, 5, 236, 98, 109, 110, 111, 402, 403, 404, 405, 320, 321, 322, 323, 87, 88, 89, 245, 246, 247, 248, 79, 324, 325, 326, 327, 774, 775, 776, 777, 778, 779, 780, 781, 782, 783, 784, 785, 786, 787, 788, 789, 790, 791, 792, 793, 794, 795, 796, 797, 798, 799, 800, 801, 802, 803] rfl (by decide +kernel)
set_option maxRecDepth 20000 in
theorem gL_law_X4_where : GoodIn wsL_law (wsV RL 63 RX4 yX4_where wsX4_where) := goodIn_app (goodIn_r _ [397, 398, 399, 5] rfl (by decide +kernel)) ggL_law_X4_where
set_option maxRecDepth 20000 in
theorem ggL_law_X3_meet : GoodIn wsL_law wsX3_meet := goodIn_r _ [409, 38, 24, 410, 411, 412, 2, 413, 19, 200, 201, 202, 18, 203, 43, 386, 387, 388, 37, 389, 72, 390, 296, 297, 23, 298, 57, 58, 59, 60, 61, 180, 171, 172, 173, 62, 63, 414, 415, 416, 417, 395, 69, 396, 300, 301, 302, 64, 303, 304, 218, 219, 220, 221, 222, 223, 224, 225, 226, 227, 228, 305, 257, 258, 259, 306, 269, 270, 271, 264, 265, 266, 267, 307, 308, 309, 310, 418, 419, 420, 421, 422, 423, 424, 425, 426, 427, 428, 429, 430, 431, 432, 433, 70, 434, 435, 436, 437, 438, 439, 757, 758, 759, 760, 761, 762, 763, 764, 765, 766, 767, 768, 769, 770, 771, 772, 773, 804, 805, 806, 807, 808, 809, 810, 811, 812, 813, 822, 823, 824, 814, 815, 816, 817, 818, 819, 820, 821] rfl (by decide +kernel)
set_option maxRecDepth 20000 in
theorem gL_law_X3_meet : GoodIn wsL_law (wsV RL 64 RX3 yX3_meet wsX3_meet) := goodIn_app (goodIn_r _ [406, 407, 408, 2] rfl (by decide +kernel)) ggL_law_X3_meet
set_option maxRecDepth 20000 in
theorem ggL_law_X4_meet : GoodIn wsL_law wsX4_meet := goodIn_r _ [443, 233, 234, 235, 5, 236, 98, 109, 110, 111, 402, 403, 404, 405, 81, 444, 445, 446, 447, 191, 320, 321, 322, 323, 87, 88, 89, 245, 246, 247, 248, 79, 324, 325, 326, 327, 448, 449, 450, 451, 452, 453, 454, 774, 775, 776, 777, 778, 779, 780, 781, 782, 783, 784, 785, 786, 787, 788, 789, 790, 791, 792, 793, 794, 795, 796, 797, 798, 799, 800, 801, 802, 803] rfl (by decide +kernel)
set_option maxRecDepth 20000 in
theorem gL_law_X4_meet : GoodIn wsL_law (wsV RL 67 RX4 yX4_meet wsX4_meet) := goodIn_app (goodIn_r _ [440, 441, 442, 5] rfl (by decide +kernel)) ggL_law_X4_meet
set_option maxRecDepth 20000 in
theorem ggL_law_X3_twoSeats : GoodIn wsL_law wsX3_twoSeats := goodIn_r _ [458, 38, 24, 386, 387, 388, 37, 389, 72, 390, 296, 297, 23, 298, 57, 58, 59, 60, 61, 180, 171, 172, 173, 62, 63, 459, 460, 461, 462, 395, 69, 396, 300, 301, 302, 64, 303, 304, 218, 219, 220, 221, 201, 202, 18, 203, 43, 222, 223, 224, 225, 226, 227, 228, 305, 257, 258, 259, 306, 269, 270, 271, 264, 265, 266, 267, 307, 308, 309, 310, 463, 464, 465, 466, 70, 467, 418, 419, 420, 421, 422, 423, 424, 425, 426, 427, 428, 429, 430, 431, 432, 433, 434, 435, 436, 437, 438, 439, 468, 469, 470, 471, 472, 757, 758, 759, 760, 761, 762, 763, 764, 765, 766, 767, 768, 769, 770, 771, 772, 773, 822, 823, 824, 814, 815, 816, 817, 818, 819, 820, 821, 804, 805, 806, 807, 808, 809, 810, 811, 812, 813] rfl (by decide +kernel)
set_option maxRecDepth 20000 in
theorem gL_law_X3_twoSeats : GoodIn wsL_law (wsV RL 68 RX3 yX3_twoSeats wsX3_twoSeats) := goodIn_app (goodIn_r _ [455, 456, 457, 2] rfl (by decide +kernel)) ggL_law_X3_twoSeats
set_option maxRecDepth 20000 in
theorem ggL_law_X4_twoSeats : GoodIn wsL_law wsX4_twoSeats := goodIn_r _ [476, 81, 191, 402, 403, 404, 5, 405, 320, 321, 322, 323, 98, 87, 88, 89, 245, 246, 247, 248, 79, 324, 325, 326, 327, 477, 478, 479, 480, 80, 448, 449, 450, 451, 452, 453, 454, 774, 775, 776, 777, 778, 779, 780, 781, 782, 783, 784, 785, 786, 787, 788, 789, 790, 791, 792, 793, 794, 795, 796, 797, 798, 799, 800, 801, 802, 803] rfl (by decide +kernel)
set_option maxRecDepth 20000 in
theorem gL_law_X4_twoSeats : GoodIn wsL_law (wsV RL 71 RX4 yX4_twoSeats wsX4_twoSeats) := goodIn_app (goodIn_r _ [473, 474, 475, 5] rfl (by decide +kernel)) ggL_law_X4_twoSeats
set_option maxRecDepth 20000 in
theorem ggL_law_X3_fewest : GoodIn wsL_law wsX3_fewest := goodIn_r _ [484, 38, 24, 410, 411, 412, 2, 413, 19, 200, 201, 202, 18, 203, 43, 386, 387, 388, 37, 389, 72, 390, 296, 297, 23, 298, 57, 58, 59, 60, 61, 180, 171, 172, 173, 62, 63, 414, 415, 416, 417, 395, 69, 396, 300, 301, 302, 64, 303, 304, 218, 219, 220, 221, 222, 223, 224, 225, 226, 227, 228, 305, 257, 258, 259, 306, 269, 270, 271, 264, 265, 266, 267, 307, 308, 309, 310, 418, 419, 420, 421, 422, 423, 424, 425, 426, 427, 428, 429, 430, 431, 432, 433, 70, 434, 435, 436, 437, 438, 439, 485, 486, 487, 488, 165, 164, 385, 255, 256, 332, 333, 334, 335, 208, 209, 210, 211, 489, 490, 491, 492, 757, 758, 759, 760, 761, 762, 763, 764, 765, 766, 767, 768, 769, 770, 771, 772, 773, 804, 805, 806, 807, 808, 809, 810, 811, 812, 813, 822, 823, 824, 814, 815, 816, 817, 818, 819, 820, 821] rfl (by decide +kernel)
set_option maxRecDepth 20000 in
theorem gL_law_X3_fewest : GoodIn wsL_law (wsV RL 72 RX3 yX3_fewest wsX3_fewest) := goodIn_app (goodIn_r _ [481, 482, 483, 2] rfl (by decide +kernel)) ggL_law_X3_fewest
set_option maxRecDepth 20000 in
theorem ggL_law_X4_fewest : GoodIn wsL_law wsX4_fewest := goodIn_r _ [496, 233, 234, 235, 5, 236, 98, 109, 110, 111, 402, 403, 404, 405, 81, 444, 445, 446, 447, 191, 320, 321, 322, 323, 87, 88, 89, 245, 246, 247, 248, 79, 324, 325, 326, 327, 448, 449, 450, 451, 452, 453, 454, 497, 498, 499, 500, 278, 279, 280, 281, 237, 238, 239, 240, 774, 775, 776, 777, 778, 779, 780, 781, 782, 783, 784, 785, 786, 787, 788, 789, 790, 791, 792, 793, 794, 795, 796, 797, 798, 799, 800, 801, 802, 803] rfl (by decide +kernel)
set_option maxRecDepth 20000 in
theorem gL_law_X4_fewest : GoodIn wsL_law (wsV RL 76 RX4 yX4_fewest wsX4_fewest) := goodIn_app (goodIn_r _ [493, 494, 495, 5] rfl (by decide +kernel)) ggL_law_X4_fewest
theorem dL_law_394 : decode cL_law 394 = .ok (.aload_n 1, 1) := by decide +kernel
theorem dL_law_395 : decode cL_law 395 = .ok (.invokevirtual 56, 3) := by decide +kernel
theorem dL_law_398 : decode cL_law 398 = .ok (.pop, 1) := by decide +kernel
theorem dL_law_399 : decode cL_law 399 = .ok (.aload_n 2, 1) := by decide +kernel
theorem dL_law_400 : decode cL_law 400 = .ok (.invokevirtual 59, 3) := by decide +kernel
theorem dL_law_403 : decode cL_law 403 = .ok (.pop, 1) := by decide +kernel
theorem dL_law_404 : decode cL_law 404 = .ok (.goto 565, 3) := by decide +kernel
theorem dL_law_407 : decode cL_law 407 = .ok (.aload_n 1, 1) := by decide +kernel
theorem dL_law_408 : decode cL_law 408 = .ok (.aload_n 0, 1) := by decide +kernel
theorem dL_law_409 : decode cL_law 409 = .ok (.iload_n 3, 1) := by decide +kernel
theorem dL_law_410 : decode cL_law 410 = .ok (.iconst 1, 1) := by decide +kernel
theorem dL_law_411 : decode cL_law 411 = .ok (.iadd, 1) := by decide +kernel
theorem dL_law_412 : decode cL_law 412 = .ok (.iaload, 1) := by decide +kernel
theorem dL_law_413 : decode cL_law 413 = .ok (.aload_n 0, 1) := by decide +kernel
theorem dL_law_414 : decode cL_law 414 = .ok (.iload_n 3, 1) := by decide +kernel
theorem dL_law_415 : decode cL_law 415 = .ok (.iconst 2, 1) := by decide +kernel
theorem dL_law_416 : decode cL_law 416 = .ok (.iadd, 1) := by decide +kernel
theorem dL_law_417 : decode cL_law 417 = .ok (.iaload, 1) := by decide +kernel
theorem dL_law_418 : decode cL_law 418 = .ok (.invokevirtual 60, 3) := by decide +kernel
theorem dL_law_421 : decode cL_law 421 = .ok (.pop, 1) := by decide +kernel
theorem dL_law_422 : decode cL_law 422 = .ok (.aload_n 2, 1) := by decide +kernel
theorem dL_law_423 : decode cL_law 423 = .ok (.aload_n 0, 1) := by decide +kernel
theorem dL_law_424 : decode cL_law 424 = .ok (.iload_n 3, 1) := by decide +kernel
theorem dL_law_425 : decode cL_law 425 = .ok (.iconst 1, 1) := by decide +kernel
theorem dL_law_426 : decode cL_law 426 = .ok (.iadd, 1) := by decide +kernel
theorem dL_law_427 : decode cL_law 427 = .ok (.iaload, 1) := by decide +kernel
theorem dL_law_428 : decode cL_law 428 = .ok (.aload_n 0, 1) := by decide +kernel
theorem dL_law_429 : decode cL_law 429 = .ok (.iload_n 3, 1) := by decide +kernel
theorem dL_law_430 : decode cL_law 430 = .ok (.iconst 2, 1) := by decide +kernel
theorem dL_law_431 : decode cL_law 431 = .ok (.iadd, 1) := by decide +kernel
theorem dL_law_432 : decode cL_law 432 = .ok (.iaload, 1) := by decide +kernel
theorem dL_law_433 : decode cL_law 433 = .ok (.invokevirtual 63, 3) := by decide +kernel
theorem dL_law_436 : decode cL_law 436 = .ok (.pop, 1) := by decide +kernel
theorem dL_law_437 : decode cL_law 437 = .ok (.goto 532, 3) := by decide +kernel
theorem dL_law_440 : decode cL_law 440 = .ok (.aload_n 1, 1) := by decide +kernel
theorem dL_law_441 : decode cL_law 441 = .ok (.aload_n 0, 1) := by decide +kernel
theorem dL_law_442 : decode cL_law 442 = .ok (.iload_n 3, 1) := by decide +kernel
theorem dL_law_443 : decode cL_law 443 = .ok (.iconst 1, 1) := by decide +kernel
theorem dL_law_444 : decode cL_law 444 = .ok (.iadd, 1) := by decide +kernel
theorem dL_law_445 : decode cL_law 445 = .ok (.iaload, 1) := by decide +kernel
theorem dL_law_446 : decode cL_law 446 = .ok (.aload_n 0, 1) := by decide +kernel
theorem dL_law_447 : decode cL_law 447 = .ok (.iload_n 3, 1) := by decide +kernel
theorem dL_law_448 : decode cL_law 448 = .ok (.iconst 2, 1) := by decide +kernel
theorem dL_law_449 : decode cL_law 449 = .ok (.iadd, 1) := by decide +kernel
theorem dL_law_450 : decode cL_law 450 = .ok (.iaload, 1) := by decide +kernel
theorem dL_law_451 : decode cL_law 451 = .ok (.invokevirtual 64, 3) := by decide +kernel
theorem dL_law_454 : decode cL_law 454 = .ok (.pop, 1) := by decide +kernel
theorem dL_law_455 : decode cL_law 455 = .ok (.aload_n 2, 1) := by decide +kernel
theorem dL_law_456 : decode cL_law 456 = .ok (.aload_n 0, 1) := by decide +kernel
theorem dL_law_457 : decode cL_law 457 = .ok (.iload_n 3, 1) := by decide +kernel
theorem dL_law_458 : decode cL_law 458 = .ok (.iconst 1, 1) := by decide +kernel
theorem dL_law_459 : decode cL_law 459 = .ok (.iadd, 1) := by decide +kernel
theorem dL_law_460 : decode cL_law 460 = .ok (.iaload, 1) := by decide +kernel
theorem dL_law_461 : decode cL_law 461 = .ok (.aload_n 0, 1) := by decide +kernel
theorem dL_law_462 : decode cL_law 462 = .ok (.iload_n 3, 1) := by decide +kernel
theorem dL_law_463 : decode cL_law 463 = .ok (.iconst 2, 1) := by decide +kernel
theorem dL_law_464 : decode cL_law 464 = .ok (.iadd, 1) := by decide +kernel
theorem dL_law_465 : decode cL_law 465 = .ok (.iaload, 1) := by decide +kernel
theorem dL_law_466 : decode cL_law 466 = .ok (.invokevirtual 67, 3) := by decide +kernel
theorem dL_law_469 : decode cL_law 469 = .ok (.pop, 1) := by decide +kernel
theorem dL_law_470 : decode cL_law 470 = .ok (.goto 499, 3) := by decide +kernel
theorem dL_law_473 : decode cL_law 473 = .ok (.aload_n 1, 1) := by decide +kernel
theorem dL_law_474 : decode cL_law 474 = .ok (.invokevirtual 68, 3) := by decide +kernel
theorem dL_law_477 : decode cL_law 477 = .ok (.pop, 1) := by decide +kernel
theorem dL_law_478 : decode cL_law 478 = .ok (.aload_n 2, 1) := by decide +kernel
theorem dL_law_479 : decode cL_law 479 = .ok (.invokevirtual 71, 3) := by decide +kernel
theorem dL_law_482 : decode cL_law 482 = .ok (.pop, 1) := by decide +kernel
theorem dL_law_483 : decode cL_law 483 = .ok (.goto 486, 3) := by decide +kernel
theorem dL_law_486 : decode cL_law 486 = .ok (.aload_n 1, 1) := by decide +kernel
theorem dL_law_487 : decode cL_law 487 = .ok (.aload_n 0, 1) := by decide +kernel
theorem dL_law_488 : decode cL_law 488 = .ok (.iload_n 3, 1) := by decide +kernel
theorem dL_law_489 : decode cL_law 489 = .ok (.iconst 1, 1) := by decide +kernel
theorem dL_law_490 : decode cL_law 490 = .ok (.iadd, 1) := by decide +kernel
theorem dL_law_491 : decode cL_law 491 = .ok (.iaload, 1) := by decide +kernel
theorem dL_law_492 : decode cL_law 492 = .ok (.aload_n 0, 1) := by decide +kernel
theorem dL_law_493 : decode cL_law 493 = .ok (.iload_n 3, 1) := by decide +kernel
theorem dL_law_494 : decode cL_law 494 = .ok (.iconst 2, 1) := by decide +kernel
theorem dL_law_495 : decode cL_law 495 = .ok (.iadd, 1) := by decide +kernel
theorem dL_law_496 : decode cL_law 496 = .ok (.iaload, 1) := by decide +kernel
theorem dL_law_497 : decode cL_law 497 = .ok (.aload_n 0, 1) := by decide +kernel
theorem dL_law_498 : decode cL_law 498 = .ok (.iload_n 3, 1) := by decide +kernel
theorem dL_law_499 : decode cL_law 499 = .ok (.iconst 3, 1) := by decide +kernel
theorem dL_law_500 : decode cL_law 500 = .ok (.iadd, 1) := by decide +kernel
theorem dL_law_501 : decode cL_law 501 = .ok (.iaload, 1) := by decide +kernel
theorem dL_law_502 : decode cL_law 502 = .ok (.ifCond .eq 7, 3) := by decide +kernel
theorem dL_law_505 : decode cL_law 505 = .ok (.iconst 1, 1) := by decide +kernel
theorem dL_law_506 : decode cL_law 506 = .ok (.goto 4, 3) := by decide +kernel
theorem dL_law_509 : decode cL_law 509 = .ok (.iconst 0, 1) := by decide +kernel
theorem dL_law_510 : decode cL_law 510 = .ok (.invokevirtual 72, 3) := by decide +kernel
theorem dL_law_513 : decode cL_law 513 = .ok (.pop, 1) := by decide +kernel
theorem dL_law_514 : decode cL_law 514 = .ok (.aload_n 2, 1) := by decide +kernel
theorem dL_law_515 : decode cL_law 515 = .ok (.aload_n 0, 1) := by decide +kernel
theorem dL_law_516 : decode cL_law 516 = .ok (.iload_n 3, 1) := by decide +kernel
theorem dL_law_517 : decode cL_law 517 = .ok (.iconst 1, 1) := by decide +kernel
theorem dL_law_518 : decode cL_law 518 = .ok (.iadd, 1) := by decide +kernel
theorem dL_law_519 : decode cL_law 519 = .ok (.iaload, 1) := by decide +kernel
theorem dL_law_520 : decode cL_law 520 = .ok (.aload_n 0, 1) := by decide +kernel
theorem dL_law_521 : decode cL_law 521 = .ok (.iload_n 3, 1) := by decide +kernel
theorem dL_law_522 : decode cL_law 522 = .ok (.iconst 2, 1) := by decide +kernel
theorem dL_law_523 : decode cL_law 523 = .ok (.iadd, 1) := by decide +kernel
theorem dL_law_524 : decode cL_law 524 = .ok (.iaload, 1) := by decide +kernel
theorem dL_law_525 : decode cL_law 525 = .ok (.aload_n 0, 1) := by decide +kernel
theorem dL_law_526 : decode cL_law 526 = .ok (.iload_n 3, 1) := by decide +kernel
theorem dL_law_527 : decode cL_law 527 = .ok (.iconst 3, 1) := by decide +kernel
theorem dL_law_528 : decode cL_law 528 = .ok (.iadd, 1) := by decide +kernel
theorem dL_law_529 : decode cL_law 529 = .ok (.iaload, 1) := by decide +kernel
theorem dL_law_530 : decode cL_law 530 = .ok (.ifCond .eq 7, 3) := by decide +kernel
theorem dL_law_533 : decode cL_law 533 = .ok (.iconst 1, 1) := by decide +kernel
theorem dL_law_534 : decode cL_law 534 = .ok (.goto 4, 3) := by decide +kernel
theorem dL_law_537 : decode cL_law 537 = .ok (.iconst 0, 1) := by decide +kernel
theorem dL_law_538 : decode cL_law 538 = .ok (.invokevirtual 76, 3) := by decide +kernel
theorem dL_law_541 : decode cL_law 541 = .ok (.pop, 1) := by decide +kernel
theorem dL_law_542 : decode cL_law 542 = .ok (.goto 427, 3) := by decide +kernel
set_option maxHeartbeats 1000000 in
set_option maxRecDepth 100000 in
theorem law_c10 {p : Program} {l : Launch} {e : Env} {s : State} {m : MethodId} {below : List Frame} {meth : Method} {c : Code} {b LN : Nat} {xs : Nat → Int32} {A : Nat → Prop} {args : Array Value} {R : Room} {Q : State → Prop} (hB : Lb p s m args meth c b xs A LN) (hR : R = room_1) (D : va_G) (cI cZ cM : ClassId) (hK : va_K D vwCl (ty3 cI cZ cM) s) {x0 y0 : Nat} {H : Heap} {locs : List Loc} {ls : Array Slot} {c0 s0 : Nat} (hc : c0 + 4 ≤ 600000) (hs : s0 + 27 ≤ 7302250) {ix : Int32} (hixa : 0 ≤ ix.toInt) (hixb : ix.toInt + 5 ≤ (LN : Int)) (hLN : LN ≤ 320) (hSt : StW D cI cZ cM A x0 y0 H) (hS : va_S A s.heap H locs) (hl : lv_has ls 4 [(0, .ref b), (1, .ref x0), (2, .ref y0), (3, .int ix)]) (hNext : ∀ (H : Heap) (locs : List Loc) (ls : Array Slot), StW D cI cZ cM A x0 y0 H → va_S A s.heap H locs → lv_has ls 4 [(0, .ref b), (1, .ref x0), (2, .ref y0), (3, .int ix)] → W p l e R s m args below meth c H locs (c0 + 4) (s0 + 27) Q (F0 m 969 ls [])) : W p l e R s m args below meth c H locs c0 s0 Q (F0 m 394 ls []) := by
  obtain ⟨hx, hb, hr, hml, hown, hts, hX, hbl, hlocks, hA, hAf⟩ := hB
  have hbA : ¬ A b := fun q => absurd (hAf b q) (Nat.not_le.mpr hbl)
  refine stw_elim hSt ?_
  intro tx le td dr nw ac fa an kp ks sp ss sy sc sd tr ia Ftx lpe ltk lho lli lki lfd lfr lto lse lhl lFho lFli lFki lFfd lFfr lFto lFse lFhl dpe dtk dho dli dki dfd dfr dto dse dhl dFho dFli dFki dFfd dFfr dFto dFse dFhl md mt mr mg mat mfd mhd mFat mFfd mFhd Fac Fkp Fsp Fss Fsy mo rd zd zt zr zg zat zfd zhd zFat zFfd zFhd Frd Fia ype ytk ywi yki yse yno yrh yrw yrk yrt yrp yrq ytx yle yat yfa yby ylo yhi yac ynx yro ygl ysn yso ysp ysw ysd yik ykp Ywi Yki Yse Yno Yrh Yrw Yrk Yrt Ytx Yby Ylo Yhi Yro Ygl Yso Ysp Ysw Yik Ykp L hI hP hD
  obtain ⟨⟨hle0, hle1⟩, ⟨hfa0, hfa1⟩, ⟨han0, han1⟩, ⟨hsc0, hsc1⟩, ⟨hlpe0, hlpe1⟩, ⟨hltk0, hltk1⟩, ⟨hmd0, hmd1⟩, ⟨hmt0, hmt1⟩, ⟨hype0, hype1⟩, ⟨hytk0, hytk1⟩, ⟨hyle0, hyle1⟩, ⟨hyac0, hyac1⟩, ⟨hynx0, hynx1⟩, ⟨hysn0, hysn1⟩, hPoA, hPoK, hMsO, hByO, hle, hsd, hTX, hTxO, hlpt, hsct⟩ := hI
  have hlet : le.toInt = yle.toInt := by rw [hle]
  have hTxY : TxOk Ytx := hTX ▸ hTxO
  have hFL : flt Ytx yle.toInt = flt Ftx le.toInt := by rw [hTX, hle]
  have hFL_1 : (flt Ytx yle.toInt).1 = (flt Ftx le.toInt).1 := by rw [hFL]
  have hFL_2_1 : (flt Ytx yle.toInt).2.1 = (flt Ftx le.toInt).2.1 := by rw [hFL]
  have hFL_2_2 : (flt Ytx yle.toInt).2.2 = (flt Ftx le.toInt).2.2 := by rw [hFL]
  have hsdt : sd.toInt = ysd.toInt := by rw [hsd]
  obtain ⟨a1, ha1⟩ : ∃ z : Int32, xs (ix + 1 : Int32).toNatClampNeg = z := ⟨_, rfl⟩
  obtain ⟨a2, ha2⟩ : ∃ z : Int32, xs (ix + 2 : Int32).toNatClampNeg = z := ⟨_, rfl⟩
  obtain ⟨a3, ha3⟩ : ∃ z : Int32, xs (ix + 3 : Int32).toNatClampNeg = z := ⟨_, rfl⟩
  obtain ⟨a4, ha4⟩ : ∃ z : Int32, xs (ix + 4 : Int32).toNatClampNeg = z := ⟨_, rfl⟩
  refine lv_aload_n hx hb dL_law_394 rfl (lv_at hl 1 rfl) ?_
  refine gV_i (As := []) (rest := []) ⟨hx, hb, hml, hown, hts⟩ (c_X3_undo l D cI cZ cM x0 tx le td dr nw ac fa an kp ks sp ss sy sc sd tr ia Fac md mt mr mg mat mfd mhd mFat mFfd mFhd L _ hPoA hMsO (show 0 ≤ fa.toInt ∧ fa.toInt ≤ 13 by omega) (show 0 ≤ an.toInt ∧ an.toInt ≤ 14 by omega) (show 0 ≤ md.toInt ∧ md.toInt ≤ 10 by omega) (show 0 ≤ mt.toInt ∧ mt.toInt ≤ 6 by omega)) (cwV 0 hts gL_law_X3_undo rfl rfl rfl (by decide +kernel) ⟨by rw [hR]; decide, by rw [hR]; decide⟩) hK hP hD hS hA [0, 24, 20, 21, 22, 23] [1, 2, 3, 4, 5, 6, 7, 8, 9, 10, 11, 12, 13, 14, 15, 16, 17, 18, 19, 25, 26, 27, 28, 29, 30, 31, 32, 33, 34, 35, 36, 37, 38, 39, 40, 41, 42, 43, 44, 45, 46, 47, 48, 49, 50, 51, 52, 53, 54, 55] rfl rfl (by decide) (by decide +kernel) (by decide +kernel) rfl 0 rfl hl.1 rfl rfl (Nat.le_of_ble_eq_true rfl) dL_law_395 ⟨by rw [hR]; exact (show _ ≤ 600000 by omega), by rw [hR]; exact (show _ ≤ 7302250 by omega)⟩ (fun r_12 u_13 H locs hw hP hD hS => ?_)
  obtain ⟨fa1_1, an1_2, Gac_3, md1_4, mt1_5, mr1_6, mg1_7, Gmat_8, Gmfd_9, Gmhd_10, L1_11⟩ := u_13
  obtain ⟨hP, hD⟩ := PD_subF (X' := WXY cI cZ cM x0 y0 tx le td dr nw ac fa1_1 an1_2 kp ks sp ss sy sc sd tr ia Ftx lpe ltk lho lli lki lfd lfr lto lse lhl lFho lFli lFki lFfd lFfr lFto lFse lFhl dpe dtk dho dli dki dfd dfr dto dse dhl dFho dFli dFki dFfd dFfr dFto dFse dFhl md1_4 mt1_5 mr1_6 mg1_7 mat mfd mhd Gmat_8 Gmfd_9 Gmhd_10 Gac_3 Fkp Fsp Fss Fsy mo rd zd zt zr zg zat zfd zhd zFat zFfd zFhd Frd Fia ype ytk ywi yki yse yno yrh yrw yrk yrt yrp yrq ytx yle yat yfa yby ylo yhi yac ynx yro ygl ysn yso ysp ysw ysd yik ykp Ywi Yki Yse Yno Yrh Yrw Yrk Yrt Ytx Yby Ylo Yhi Yro Ygl Yso Ysp Ysw Yik Ykp) hP hD [50, 0, 1, 2, 3, 4, 5, 6, 7, 8, 9, 10, 11, 12, 13, 14, 15, 16, 17, 18, 52, 53, 54, 55, 51, 19, 20, 21, 22, 23, 24, 25, 26, 27, 28, 29, 30, 31, 32, 33, 34, 35, 36, 37, 38, 39, 40, 41, 42, 43, 44, 45, 46, 47, 48, 49] (by decide +kernel) rfl
  delta WXY at hP hD
  refine W.widen (k := c0) (n := s0) (Nat.le_refl _) (Nat.le_refl _) ?_
  have hw : InPool 14 Gac_3 L1_11 ∧ Keeps L L1_11 ∧ MsOk L1_11 ∧ (0 ≤ fa1_1.toInt ∧ fa1_1.toInt ≤ 13) ∧ (0 ≤ an1_2.toInt ∧ an1_2.toInt ≤ 14) ∧ (0 ≤ md1_4.toInt ∧ md1_4.toInt ≤ 10) ∧ (0 ≤ mt1_5.toInt ∧ mt1_5.toInt ≤ 6) := hw
  have hw_14 := hw
  obtain ⟨PL_15a, PL_15b, PL_15c, PL_15d⟩ := hw_14
  refine lv_pop hx hb dL_law_398 rfl ?_
  refine lv_aload_n hx hb dL_law_399 rfl (lv_at hl 2 rfl) ?_
  refine fV_i (As := []) (rest := []) ⟨hx, hb, hml, hown, hts⟩ (c_X4_undo l D cI cZ cM y0 ype ytk ywi yki yse yno yrh yrw yrk yrt yrp yrq ytx yle yat yfa yby ylo yhi yac ynx yro ygl ysn yso ysp ysw ysd yik ykp Yno Yro _ (show 0 ≤ yac.toInt ∧ yac.toInt ≤ 14 by omega) (show 0 ≤ ynx.toInt ∧ ynx.toInt ≤ 13 by omega)) (cwV 0 hts gL_law_X4_undo rfl rfl rfl (by decide +kernel) ⟨by rw [hR]; decide, by rw [hR]; decide⟩) hK hP hD hS hA [36, 40, 49] [0, 1, 2, 3, 4, 5, 6, 7, 8, 9, 10, 11, 12, 13, 14, 15, 16, 17, 18, 19, 20, 21, 22, 23, 24, 25, 26, 27, 28, 29, 30, 31, 32, 33, 34, 35, 37, 38, 39, 41, 42, 43, 44, 45, 46, 47, 48, 50, 51, 52, 53, 54, 55] rfl rfl (by decide) (by decide +kernel) (by decide +kernel) rfl 36 rfl hl.1 rfl rfl (Nat.le_of_ble_eq_true rfl) dL_law_400 ⟨by rw [hR]; exact (show _ ≤ 600000 by omega), by rw [hR]; exact (show _ ≤ 7302250 by omega)⟩ (fun r_19 u_20 H locs hw hP hD hS => ?_)
  obtain ⟨ac1_16, nx1_17, Gno_18⟩ := u_20
  obtain ⟨hP, hD⟩ := PD_subF (X' := WXY cI cZ cM x0 y0 tx le td dr nw ac fa1_1 an1_2 kp ks sp ss sy sc sd tr ia Ftx lpe ltk lho lli lki lfd lfr lto lse lhl lFho lFli lFki lFfd lFfr lFto lFse lFhl dpe dtk dho dli dki dfd dfr dto dse dhl dFho dFli dFki dFfd dFfr dFto dFse dFhl md1_4 mt1_5 mr1_6 mg1_7 mat mfd mhd Gmat_8 Gmfd_9 Gmhd_10 Gac_3 Fkp Fsp Fss Fsy mo rd zd zt zr zg zat zfd zhd zFat zFfd zFhd Frd Fia ype ytk ywi yki yse yno yrh yrw yrk yrt yrp yrq ytx yle yat yfa yby ylo yhi ac1_16 nx1_17 yro ygl ysn yso ysp ysw ysd yik ykp Ywi Yki Yse Gno_18 Yrh Yrw Yrk Yrt Ytx Yby Ylo Yhi Yro Ygl Yso Ysp Ysw Yik Ykp) hP hD [0, 1, 2, 3, 4, 5, 6, 7, 8, 9, 10, 11, 12, 13, 14, 15, 16, 17, 18, 19, 20, 21, 22, 23, 24, 25, 26, 27, 28, 29, 30, 31, 32, 33, 34, 35, 53, 36, 37, 38, 54, 39, 40, 41, 42, 43, 44, 45, 46, 55, 47, 48, 49, 50, 51, 52] (by decide +kernel) rfl
  delta WXY at hP hD
  refine W.widen (k := c0) (n := s0) (Nat.le_refl _) (Nat.le_refl _) ?_
  have hw : (0 ≤ ac1_16.toInt ∧ ac1_16.toInt ≤ 14) ∧ (0 ≤ nx1_17.toInt ∧ nx1_17.toInt ≤ 13) := hw
  have hw_21 := hw
  refine lv_pop hx hb dL_law_403 rfl ?_
  refine lv_goto (tgt := 969) hx hb dL_law_404 (by decide) ?_
  refine W.widen (k := c0 + 4) (n := s0 + 27) (by omega) (by omega) ?_
  exact hNext _ _ _ (stw_intro hP hD ⟨⟨hle0, hle1⟩, (show 0 ≤ fa1_1.toInt ∧ fa1_1.toInt ≤ 13 by omega), (show 0 ≤ an1_2.toInt ∧ an1_2.toInt ≤ 14 by omega), ⟨hsc0, hsc1⟩, ⟨hlpe0, hlpe1⟩, ⟨hltk0, hltk1⟩, (show 0 ≤ md1_4.toInt ∧ md1_4.toInt ≤ 10 by omega), (show 0 ≤ mt1_5.toInt ∧ mt1_5.toInt ≤ 6 by omega), ⟨hype0, hype1⟩, ⟨hytk0, hytk1⟩, ⟨hyle0, hyle1⟩, (show 0 ≤ ac1_16.toInt ∧ ac1_16.toInt ≤ 14 by omega), (show 0 ≤ nx1_17.toInt ∧ nx1_17.toInt ≤ 13 by omega), ⟨hysn0, hysn1⟩, PL_15a, (hPoK.keeps PL_15b), PL_15c, hByO, hle, hsd, hTX, hTxO, hlpt, hsct⟩) hS (lv_sub hl [0, 1, 2, 3] rfl)

set_option maxHeartbeats 1000000 in
set_option maxRecDepth 100000 in
theorem law_c11 {p : Program} {l : Launch} {e : Env} {s : State} {m : MethodId} {below : List Frame} {meth : Method} {c : Code} {b LN : Nat} {xs : Nat → Int32} {A : Nat → Prop} {args : Array Value} {R : Room} {Q : State → Prop} (hB : Lb p s m args meth c b xs A LN) (hR : R = room_1) (D : va_G) (cI cZ cM : ClassId) (hK : va_K D vwCl (ty3 cI cZ cM) s) {x0 y0 : Nat} {H : Heap} {locs : List Loc} {ls : Array Slot} {c0 s0 : Nat} (hc : c0 + 4 ≤ 600000) (hs : s0 + 27 ≤ 7302250) {ix : Int32} (hixa : 0 ≤ ix.toInt) (hixb : ix.toInt + 5 ≤ (LN : Int)) (hLN : LN ≤ 320) (hSt : StW D cI cZ cM A x0 y0 H) (hS : va_S A s.heap H locs) (hl : lv_has ls 4 [(0, .ref b), (1, .ref x0), (2, .ref y0), (3, .int ix)]) (hNext : ∀ (H : Heap) (locs : List Loc) (ls : Array Slot), StW D cI cZ cM A x0 y0 H → va_S A s.heap H locs → lv_has ls 4 [(0, .ref b), (1, .ref x0), (2, .ref y0), (3, .int ix)] → W p l e R s m args below meth c H locs (c0 + 4) (s0 + 27) Q (F0 m 969 ls [])) : W p l e R s m args below meth c H locs c0 s0 Q (F0 m 407 ls []) := by
  obtain ⟨hx, hb, hr, hml, hown, hts, hX, hbl, hlocks, hA, hAf⟩ := hB
  have hbA : ¬ A b := fun q => absurd (hAf b q) (Nat.not_le.mpr hbl)
  refine stw_elim hSt ?_
  intro tx le td dr nw ac fa an kp ks sp ss sy sc sd tr ia Ftx lpe ltk lho lli lki lfd lfr lto lse lhl lFho lFli lFki lFfd lFfr lFto lFse lFhl dpe dtk dho dli dki dfd dfr dto dse dhl dFho dFli dFki dFfd dFfr dFto dFse dFhl md mt mr mg mat mfd mhd mFat mFfd mFhd Fac Fkp Fsp Fss Fsy mo rd zd zt zr zg zat zfd zhd zFat zFfd zFhd Frd Fia ype ytk ywi yki yse yno yrh yrw yrk yrt yrp yrq ytx yle yat yfa yby ylo yhi yac ynx yro ygl ysn yso ysp ysw ysd yik ykp Ywi Yki Yse Yno Yrh Yrw Yrk Yrt Ytx Yby Ylo Yhi Yro Ygl Yso Ysp Ysw Yik Ykp L hI hP hD
  obtain ⟨⟨hle0, hle1⟩, ⟨hfa0, hfa1⟩, ⟨han0, han1⟩, ⟨hsc0, hsc1⟩, ⟨hlpe0, hlpe1⟩, ⟨hltk0, hltk1⟩, ⟨hmd0, hmd1⟩, ⟨hmt0, hmt1⟩, ⟨hype0, hype1⟩, ⟨hytk0, hytk1⟩, ⟨hyle0, hyle1⟩, ⟨hyac0, hyac1⟩, ⟨hynx0, hynx1⟩, ⟨hysn0, hysn1⟩, hPoA, hPoK, hMsO, hByO, hle, hsd, hTX, hTxO, hlpt, hsct⟩ := hI
  have hlet : le.toInt = yle.toInt := by rw [hle]
  have hTxY : TxOk Ytx := hTX ▸ hTxO
  have hFL : flt Ytx yle.toInt = flt Ftx le.toInt := by rw [hTX, hle]
  have hFL_1 : (flt Ytx yle.toInt).1 = (flt Ftx le.toInt).1 := by rw [hFL]
  have hFL_2_1 : (flt Ytx yle.toInt).2.1 = (flt Ftx le.toInt).2.1 := by rw [hFL]
  have hFL_2_2 : (flt Ytx yle.toInt).2.2 = (flt Ftx le.toInt).2.2 := by rw [hFL]
  have hsdt : sd.toInt = ysd.toInt := by rw [hsd]
  obtain ⟨a1, ha1⟩ : ∃ z : Int32, xs (ix + 1 : Int32).toNatClampNeg = z := ⟨_, rfl⟩
  obtain ⟨a2, ha2⟩ : ∃ z : Int32, xs (ix + 2 : Int32).toNatClampNeg = z := ⟨_, rfl⟩
  obtain ⟨a3, ha3⟩ : ∃ z : Int32, xs (ix + 3 : Int32).toNatClampNeg = z := ⟨_, rfl⟩
  obtain ⟨a4, ha4⟩ : ∃ z : Int32, xs (ix + 4 : Int32).toNatClampNeg = z := ⟨_, rfl⟩
  refine lv_aload_n hx hb dL_law_407 rfl (lv_at hl 1 rfl) ?_
  refine lv_aload_n hx hb dL_law_408 rfl (lv_at hl 0 rfl) ?_
  refine lv_iload_n hx hb dL_law_409 rfl (lv_at hl 3 rfl) ?_
  refine lv_iconst (v := 1) hx hb dL_law_410 (by decide) ?_
  refine lv_iadd hx hb dL_law_411 ?_
  refine lv_topi (fun v_1 ev_1 => ?_)
  have tv_1 : v_1.toInt = ix.toInt + (1 : Int) := by rw [ev_1]; exact ti_add (x := ix) (y := 1) (show -2147483648 ≤ ix.toInt + (1 : Int) by omega) (show ix.toInt + (1 : Int) < 2147483648 by omega)
  refine va_sld hx hb hX hbl hbA hS (vp_in_iff.mpr ⟨by omega, by omega⟩) dL_law_412 ?_
  refine lv_topc (y := a1) (by rw [ev_1]; exact ha1) ?_
  refine lv_aload_n hx hb dL_law_413 rfl (lv_at hl 0 rfl) ?_
  refine lv_iload_n hx hb dL_law_414 rfl (lv_at hl 3 rfl) ?_
  refine lv_iconst (v := 2) hx hb dL_law_415 (by decide) ?_
  refine lv_iadd hx hb dL_law_416 ?_
  refine lv_topi (fun v_2 ev_2 => ?_)
  have tv_2 : v_2.toInt = ix.toInt + (2 : Int) := by rw [ev_2]; exact ti_add (x := ix) (y := 2) (show -2147483648 ≤ ix.toInt + (2 : Int) by omega) (show ix.toInt + (2 : Int) < 2147483648 by omega)
  refine va_sld hx hb hX hbl hbA hS (vp_in_iff.mpr ⟨by omega, by omega⟩) dL_law_417 ?_
  refine lv_topc (y := a2) (by rw [ev_2]; exact ha2) ?_
  refine fV_i (As := [.int a1, .int a2]) (rest := []) ⟨hx, hb, hml, hown, hts⟩ (c_X3_where l D cI cZ cM x0 a1 a2 tx le td dr nw ac fa an kp ks sp ss sy sc sd tr ia lpe ltk lho lli lki lfd lfr lto lse lhl lFto lFfr lFki md mt mr mg mat mfd mhd mFat mFfd mFhd mo rd zd zt zr zg zat zfd zhd zFat zFfd zFhd Frd _ (show 0 ≤ md.toInt ∧ md.toInt ≤ 10 by omega) (show 0 ≤ mt.toInt ∧ mt.toInt ≤ 6 by omega) (show 0 ≤ lpe.toInt ∧ lpe.toInt ≤ 5 by omega)) (cwV 2 hts gL_law_X3_where rfl rfl rfl (by decide +kernel) ⟨by rw [hR]; decide, by rw [hR]; decide⟩) hK hP hD hS hA [0, 2, 8, 7, 5, 20, 21, 22, 23, 29, 30, 31, 32, 33, 34] [1, 3, 4, 6, 9, 10, 11, 12, 13, 14, 15, 16, 17, 18, 19, 24, 25, 26, 27, 28, 35, 36, 37, 38, 39, 40, 41, 42, 43, 44, 45, 46, 47, 48, 49, 50, 51, 52, 53, 54, 55] rfl rfl (by decide +kernel) (by decide +kernel) (by decide +kernel) rfl 0 rfl hl.1 rfl rfl (Nat.le_of_ble_eq_true rfl) dL_law_418 ⟨by rw [hR]; exact (show _ ≤ 600000 by omega), by rw [hR]; exact (show _ ≤ 7302250 by omega)⟩ (fun r_11 u_12 H locs hw hP hD hS => ?_)
  obtain ⟨zd1_3, zt1_4, zr1_5, zg1_6, Gzat_7, Gzfd_8, Gzhd_9, Grd_10⟩ := u_12
  obtain ⟨hP, hD⟩ := PD_subF (X' := WXY cI cZ cM x0 y0 tx le td dr nw ac fa an kp ks sp ss sy sc sd tr ia Ftx lpe ltk lho lli lki lfd lfr lto lse lhl lFho lFli lFki lFfd lFfr lFto lFse lFhl dpe dtk dho dli dki dfd dfr dto dse dhl dFho dFli dFki dFfd dFfr dFto dFse dFhl md mt mr mg mat mfd mhd mFat mFfd mFhd Fac Fkp Fsp Fss Fsy mo rd zd1_3 zt1_4 zr1_5 zg1_6 zat zfd zhd Gzat_7 Gzfd_8 Gzhd_9 Grd_10 Fia ype ytk ywi yki yse yno yrh yrw yrk yrt yrp yrq ytx yle yat yfa yby ylo yhi yac ynx yro ygl ysn yso ysp ysw ysd yik ykp Ywi Yki Yse Yno Yrh Yrw Yrk Yrt Ytx Yby Ylo Yhi Yro Ygl Yso Ysp Ysw Yik Ykp) hP hD [41, 0, 42, 1, 2, 45, 3, 44, 43, 4, 5, 6, 7, 8, 9, 10, 11, 12, 13, 14, 46, 47, 48, 49, 15, 16, 17, 18, 19, 50, 51, 52, 53, 54, 55, 20, 21, 22, 23, 24, 25, 26, 27, 28, 29, 30, 31, 32, 33, 34, 35, 36, 37, 38, 39, 40] (by decide +kernel) rfl
  delta WXY at hP hD
  refine W.widen (k := c0) (n := s0) (Nat.le_refl _) (Nat.le_refl _) ?_
  refine lv_pop hx hb dL_law_421 rfl ?_
  refine lv_aload_n hx hb dL_law_422 rfl (lv_at hl 2 rfl) ?_
  refine lv_aload_n hx hb dL_law_423 rfl (lv_at hl 0 rfl) ?_
  refine lv_iload_n hx hb dL_law_424 rfl (lv_at hl 3 rfl) ?_
  refine lv_iconst (v := 1) hx hb dL_law_425 (by decide) ?_
  refine lv_iadd hx hb dL_law_426 ?_
  refine lv_topi (fun v_13 ev_13 => ?_)
  have tv_13 : v_13.toInt = ix.toInt + (1 : Int) := by rw [ev_13]; exact ti_add (x := ix) (y := 1) (show -2147483648 ≤ ix.toInt + (1 : Int) by omega) (show ix.toInt + (1 : Int) < 2147483648 by omega)
  refine va_sld hx hb hX hbl hbA hS (vp_in_iff.mpr ⟨by omega, by omega⟩) dL_law_427 ?_
  refine lv_topc (y := a1) (by rw [ev_13]; exact ha1) ?_
  refine lv_aload_n hx hb dL_law_428 rfl (lv_at hl 0 rfl) ?_
  refine lv_iload_n hx hb dL_law_429 rfl (lv_at hl 3 rfl) ?_
  refine lv_iconst (v := 2) hx hb dL_law_430 (by decide) ?_
  refine lv_iadd hx hb dL_law_431 ?_
  refine lv_topi (fun v_14 ev_14 => ?_)
  have tv_14 : v_14.toInt = ix.toInt + (2 : Int) := by rw [ev_14]; exact ti_add (x := ix) (y := 2) (show -2147483648 ≤ ix.toInt + (2 : Int) by omega) (show ix.toInt + (2 : Int) < 2147483648 by omega)
  refine va_sld hx hb hX hbl hbA hS (vp_in_iff.mpr ⟨by omega, by omega⟩) dL_law_432 ?_
  refine lv_topc (y := a2) (by rw [ev_14]; exact ha2) ?_
  refine fV_i (As := [.int a1, .int a2]) (rest := []) ⟨hx, hb, hml, hown, hts⟩ (c_X4_where l D cI cZ cM y0 a1 a2 ype ytk ywi yki yse yno yrh yrw yrk yrt yrp yrq ytx yle yat yfa yby ylo yhi yac ynx yro ygl ysn yso ysp ysw ysd yik ykp Yno Yki Yby Ylo Yhi _ hByO (show 0 ≤ ype.toInt ∧ ype.toInt ≤ 5 by omega) (show 0 ≤ ytk.toInt ∧ ytk.toInt ≤ 6 by omega)) (cwV 2 hts gL_law_X4_where rfl rfl rfl (by decide +kernel) ⟨by rw [hR]; decide, by rw [hR]; decide⟩) hK hP hD hS hA [36, 40, 38, 46, 47, 48] [0, 1, 2, 3, 4, 5, 6, 7, 8, 9, 10, 11, 12, 13, 14, 15, 16, 17, 18, 19, 20, 21, 22, 23, 24, 25, 26, 27, 28, 29, 30, 31, 32, 33, 34, 35, 37, 39, 41, 42, 43, 44, 45, 49, 50, 51, 52, 53, 54, 55] rfl rfl (by decide) (by decide +kernel) (by decide +kernel) rfl 36 rfl hl.1 rfl rfl (Nat.le_of_ble_eq_true rfl) dL_law_433 ⟨by rw [hR]; exact (show _ ≤ 600000 by omega), by rw [hR]; exact (show _ ≤ 7302250 by omega)⟩ (fun r_19 u_20 H locs hw hP hD hS => ?_)
  obtain ⟨Gno_15, Gby_16, Glo_17, Ghi_18⟩ := u_20
  obtain ⟨hP, hD⟩ := PD_subF (X' := WXY cI cZ cM x0 y0 tx le td dr nw ac fa an kp ks sp ss sy sc sd tr ia Ftx lpe ltk lho lli lki lfd lfr lto lse lhl lFho lFli lFki lFfd lFfr lFto lFse lFhl dpe dtk dho dli dki dfd dfr dto dse dhl dFho dFli dFki dFfd dFfr dFto dFse dFhl md mt mr mg mat mfd mhd mFat mFfd mFhd Fac Fkp Fsp Fss Fsy mo rd zd1_3 zt1_4 zr1_5 zg1_6 zat zfd zhd Gzat_7 Gzfd_8 Gzhd_9 Grd_10 Fia ype ytk ywi yki yse yno yrh yrw yrk yrt yrp yrq ytx yle yat yfa yby ylo yhi yac ynx yro ygl ysn yso ysp ysw ysd yik ykp Ywi Yki Yse Gno_15 Yrh Yrw Yrk Yrt Ytx Gby_16 Glo_17 Ghi_18 Yro Ygl Yso Ysp Ysw Yik Ykp) hP hD [0, 1, 2, 3, 4, 5, 6, 7, 8, 9, 10, 11, 12, 13, 14, 15, 16, 17, 18, 19, 20, 21, 22, 23, 24, 25, 26, 27, 28, 29, 30, 31, 32, 33, 34, 35, 50, 36, 52, 37, 51, 38, 39, 40, 41, 42, 53, 54, 55, 43, 44, 45, 46, 47, 48, 49] (by decide +kernel) rfl
  delta WXY at hP hD
  refine W.widen (k := c0) (n := s0) (Nat.le_refl _) (Nat.le_refl _) ?_
  have hw : ByOk Gby_16 := hw
  have hw_21 := hw
  refine lv_pop hx hb dL_law_436 rfl ?_
  refine lv_goto (tgt := 969) hx hb dL_law_437 (by decide) ?_
  refine W.widen (k := c0 + 4) (n := s0 + 27) (by omega) (by omega) ?_
  exact hNext _ _ _ (stw_intro hP hD ⟨⟨hle0, hle1⟩, ⟨hfa0, hfa1⟩, ⟨han0, han1⟩, ⟨hsc0, hsc1⟩, ⟨hlpe0, hlpe1⟩, ⟨hltk0, hltk1⟩, ⟨hmd0, hmd1⟩, ⟨hmt0, hmt1⟩, ⟨hype0, hype1⟩, ⟨hytk0, hytk1⟩, ⟨hyle0, hyle1⟩, ⟨hyac0, hyac1⟩, ⟨hynx0, hynx1⟩, ⟨hysn0, hysn1⟩, hPoA, hPoK, hMsO, hw_21, hle, hsd, hTX, hTxO, hlpt, hsct⟩) hS (lv_sub hl [0, 1, 2, 3] rfl)

set_option maxHeartbeats 1000000 in
set_option maxRecDepth 100000 in
theorem law_c12 {p : Program} {l : Launch} {e : Env} {s : State} {m : MethodId} {below : List Frame} {meth : Method} {c : Code} {b LN : Nat} {xs : Nat → Int32} {A : Nat → Prop} {args : Array Value} {R : Room} {Q : State → Prop} (hB : Lb p s m args meth c b xs A LN) (hR : R = room_1) (D : va_G) (cI cZ cM : ClassId) (hK : va_K D vwCl (ty3 cI cZ cM) s) {x0 y0 : Nat} {H : Heap} {locs : List Loc} {ls : Array Slot} {c0 s0 : Nat} (hc : c0 + 4 ≤ 600000) (hs : s0 + 27 ≤ 7302250) {ix : Int32} (hixa : 0 ≤ ix.toInt) (hixb : ix.toInt + 5 ≤ (LN : Int)) (hLN : LN ≤ 320) (hSt : StW D cI cZ cM A x0 y0 H) (hS : va_S A s.heap H locs) (hl : lv_has ls 4 [(0, .ref b), (1, .ref x0), (2, .ref y0), (3, .int ix)]) (hNext : ∀ (H : Heap) (locs : List Loc) (ls : Array Slot), StW D cI cZ cM A x0 y0 H → va_S A s.heap H locs → lv_has ls 4 [(0, .ref b), (1, .ref x0), (2, .ref y0), (3, .int ix)] → W p l e R s m args below meth c H locs (c0 + 4) (s0 + 27) Q (F0 m 969 ls [])) : W p l e R s m args below meth c H locs c0 s0 Q (F0 m 440 ls []) := by
  obtain ⟨hx, hb, hr, hml, hown, hts, hX, hbl, hlocks, hA, hAf⟩ := hB
  have hbA : ¬ A b := fun q => absurd (hAf b q) (Nat.not_le.mpr hbl)
  refine stw_elim hSt ?_
  intro tx le td dr nw ac fa an kp ks sp ss sy sc sd tr ia Ftx lpe ltk lho lli lki lfd lfr lto lse lhl lFho lFli lFki lFfd lFfr lFto lFse lFhl dpe dtk dho dli dki dfd dfr dto dse dhl dFho dFli dFki dFfd dFfr dFto dFse dFhl md mt mr mg mat mfd mhd mFat mFfd mFhd Fac Fkp Fsp Fss Fsy mo rd zd zt zr zg zat zfd zhd zFat zFfd zFhd Frd Fia ype ytk ywi yki yse yno yrh yrw yrk yrt yrp yrq ytx yle yat yfa yby ylo yhi yac ynx yro ygl ysn yso ysp ysw ysd yik ykp Ywi Yki Yse Yno Yrh Yrw Yrk Yrt Ytx Yby Ylo Yhi Yro Ygl Yso Ysp Ysw Yik Ykp L hI hP hD
  obtain ⟨⟨hle0, hle1⟩, ⟨hfa0, hfa1⟩, ⟨han0, han1⟩, ⟨hsc0, hsc1⟩, ⟨hlpe0, hlpe1⟩, ⟨hltk0, hltk1⟩, ⟨hmd0, hmd1⟩, ⟨hmt0, hmt1⟩, ⟨hype0, hype1⟩, ⟨hytk0, hytk1⟩, ⟨hyle0, hyle1⟩, ⟨hyac0, hyac1⟩, ⟨hynx0, hynx1⟩, ⟨hysn0, hysn1⟩, hPoA, hPoK, hMsO, hByO, hle, hsd, hTX, hTxO, hlpt, hsct⟩ := hI
  have hlet : le.toInt = yle.toInt := by rw [hle]
  have hTxY : TxOk Ytx := hTX ▸ hTxO
  have hFL : flt Ytx yle.toInt = flt Ftx le.toInt := by rw [hTX, hle]
  have hFL_1 : (flt Ytx yle.toInt).1 = (flt Ftx le.toInt).1 := by rw [hFL]
  have hFL_2_1 : (flt Ytx yle.toInt).2.1 = (flt Ftx le.toInt).2.1 := by rw [hFL]
  have hFL_2_2 : (flt Ytx yle.toInt).2.2 = (flt Ftx le.toInt).2.2 := by rw [hFL]
  have hsdt : sd.toInt = ysd.toInt := by rw [hsd]
  obtain ⟨a1, ha1⟩ : ∃ z : Int32, xs (ix + 1 : Int32).toNatClampNeg = z := ⟨_, rfl⟩
  obtain ⟨a2, ha2⟩ : ∃ z : Int32, xs (ix + 2 : Int32).toNatClampNeg = z := ⟨_, rfl⟩
  obtain ⟨a3, ha3⟩ : ∃ z : Int32, xs (ix + 3 : Int32).toNatClampNeg = z := ⟨_, rfl⟩
  obtain ⟨a4, ha4⟩ : ∃ z : Int32, xs (ix + 4 : Int32).toNatClampNeg = z := ⟨_, rfl⟩
  refine lv_aload_n hx hb dL_law_440 rfl (lv_at hl 1 rfl) ?_
  refine lv_aload_n hx hb dL_law_441 rfl (lv_at hl 0 rfl) ?_
  refine lv_iload_n hx hb dL_law_442 rfl (lv_at hl 3 rfl) ?_
  refine lv_iconst (v := 1) hx hb dL_law_443 (by decide) ?_
  refine lv_iadd hx hb dL_law_444 ?_
  refine lv_topi (fun v_1 ev_1 => ?_)
  have tv_1 : v_1.toInt = ix.toInt + (1 : Int) := by rw [ev_1]; exact ti_add (x := ix) (y := 1) (show -2147483648 ≤ ix.toInt + (1 : Int) by omega) (show ix.toInt + (1 : Int) < 2147483648 by omega)
  refine va_sld hx hb hX hbl hbA hS (vp_in_iff.mpr ⟨by omega, by omega⟩) dL_law_445 ?_
  refine lv_topc (y := a1) (by rw [ev_1]; exact ha1) ?_
  refine lv_aload_n hx hb dL_law_446 rfl (lv_at hl 0 rfl) ?_
  refine lv_iload_n hx hb dL_law_447 rfl (lv_at hl 3 rfl) ?_
  refine lv_iconst (v := 2) hx hb dL_law_448 (by decide) ?_
  refine lv_iadd hx hb dL_law_449 ?_
  refine lv_topi (fun v_2 ev_2 => ?_)
  have tv_2 : v_2.toInt = ix.toInt + (2 : Int) := by rw [ev_2]; exact ti_add (x := ix) (y := 2) (show -2147483648 ≤ ix.toInt + (2 : Int) by omega) (show ix.toInt + (2 : Int) < 2147483648 by omega)
  refine va_sld hx hb hX hbl hbA hS (vp_in_iff.mpr ⟨by omega, by omega⟩) dL_law_450 ?_
  refine lv_topc (y := a2) (by rw [ev_2]; exact ha2) ?_
  refine fV_i (As := [.int a1, .int a2]) (rest := []) ⟨hx, hb, hml, hown, hts⟩ (c_X3_meet l D cI cZ cM x0 a1 a2 tx le td dr nw ac fa an kp ks sp ss sy sc sd tr ia lpe ltk lho lli lki lfd lfr lto lse lhl lFto lFfr lFki md mt mr mg mat mfd mhd mFat mFfd mFhd mo rd zd zt zr zg zat zfd zhd zFat zFfd zFhd Frd _ (show 0 ≤ md.toInt ∧ md.toInt ≤ 10 by omega) (show 0 ≤ mt.toInt ∧ mt.toInt ≤ 6 by omega) (show 0 ≤ lpe.toInt ∧ lpe.toInt ≤ 5 by omega)) (cwV 2 hts gL_law_X3_meet rfl rfl rfl (by decide +kernel) ⟨by rw [hR]; decide, by rw [hR]; decide⟩) hK hP hD hS hA [0, 2, 8, 7, 5, 20, 21, 22, 23, 29, 30, 31, 32, 33, 34] [1, 3, 4, 6, 9, 10, 11, 12, 13, 14, 15, 16, 17, 18, 19, 24, 25, 26, 27, 28, 35, 36, 37, 38, 39, 40, 41, 42, 43, 44, 45, 46, 47, 48, 49, 50, 51, 52, 53, 54, 55] rfl rfl (by decide +kernel) (by decide +kernel) (by decide +kernel) rfl 0 rfl hl.1 rfl rfl (Nat.le_of_ble_eq_true rfl) dL_law_451 ⟨by rw [hR]; exact (show _ ≤ 600000 by omega), by rw [hR]; exact (show _ ≤ 7302250 by omega)⟩ (fun r_11 u_12 H locs hw hP hD hS => ?_)
  obtain ⟨zd1_3, zt1_4, zr1_5, zg1_6, Gzat_7, Gzfd_8, Gzhd_9, Grd_10⟩ := u_12
  obtain ⟨hP, hD⟩ := PD_subF (X' := WXY cI cZ cM x0 y0 tx le td dr nw ac fa an kp ks sp ss sy sc sd tr ia Ftx lpe ltk lho lli lki lfd lfr lto lse lhl lFho lFli lFki lFfd lFfr lFto lFse lFhl dpe dtk dho dli dki dfd dfr dto dse dhl dFho dFli dFki dFfd dFfr dFto dFse dFhl md mt mr mg mat mfd mhd mFat mFfd mFhd Fac Fkp Fsp Fss Fsy mo rd zd1_3 zt1_4 zr1_5 zg1_6 zat zfd zhd Gzat_7 Gzfd_8 Gzhd_9 Grd_10 Fia ype ytk ywi yki yse yno yrh yrw yrk yrt yrp yrq ytx yle yat yfa yby ylo yhi yac ynx yro ygl ysn yso ysp ysw ysd yik ykp Ywi Yki Yse Yno Yrh Yrw Yrk Yrt Ytx Yby Ylo Yhi Yro Ygl Yso Ysp Ysw Yik Ykp) hP hD [41, 0, 42, 1, 2, 45, 3, 44, 43, 4, 5, 6, 7, 8, 9, 10, 11, 12, 13, 14, 46, 47, 48, 49, 15, 16, 17, 18, 19, 50, 51, 52, 53, 54, 55, 20, 21, 22, 23, 24, 25, 26, 27, 28, 29, 30, 31, 32, 33, 34, 35, 36, 37, 38, 39, 40] (by decide +kernel) rfl
  delta WXY at hP hD
  refine W.widen (k := c0) (n := s0) (Nat.le_refl _) (Nat.le_refl _) ?_
  refine lv_pop hx hb dL_law_454 rfl ?_
  refine lv_aload_n hx hb dL_law_455 rfl (lv_at hl 2 rfl) ?_
  refine lv_aload_n hx hb dL_law_456 rfl (lv_at hl 0 rfl) ?_
  refine lv_iload_n hx hb dL_law_457 rfl (lv_at hl 3 rfl) ?_
  refine lv_iconst (v := 1) hx hb dL_law_458 (by decide) ?_
  refine lv_iadd hx hb dL_law_459 ?_
  refine lv_topi (fun v_13 ev_13 => ?_)
  have tv_13 : v_13.toInt = ix.toInt + (1 : Int) := by rw [ev_13]; exact ti_add (x := ix) (y := 1) (show -2147483648 ≤ ix.toInt + (1 : Int) by omega) (show ix.toInt + (1 : Int) < 2147483648 by omega)
  refine va_sld hx hb hX hbl hbA hS (vp_in_iff.mpr ⟨by omega, by omega⟩) dL_law_460 ?_
  refine lv_topc (y := a1) (by rw [ev_13]; exact ha1) ?_
  refine lv_aload_n hx hb dL_law_461 rfl (lv_at hl 0 rfl) ?_
  refine lv_iload_n hx hb dL_law_462 rfl (lv_at hl 3 rfl) ?_
  refine lv_iconst (v := 2) hx hb dL_law_463 (by decide) ?_
  refine lv_iadd hx hb dL_law_464 ?_
  refine lv_topi (fun v_14 ev_14 => ?_)
  have tv_14 : v_14.toInt = ix.toInt + (2 : Int) := by rw [ev_14]; exact ti_add (x := ix) (y := 2) (show -2147483648 ≤ ix.toInt + (2 : Int) by omega) (show ix.toInt + (2 : Int) < 2147483648 by omega)
  refine va_sld hx hb hX hbl hbA hS (vp_in_iff.mpr ⟨by omega, by omega⟩) dL_law_465 ?_
  refine lv_topc (y := a2) (by rw [ev_14]; exact ha2) ?_
  refine fV_i (As := [.int a1, .int a2]) (rest := []) ⟨hx, hb, hml, hown, hts⟩ (c_X4_meet l D cI cZ cM y0 a1 a2 ype ytk ywi yki yse yno yrh yrw yrk yrt yrp yrq ytx yle yat yfa yby ylo yhi yac ynx yro ygl ysn yso ysp ysw ysd yik ykp Yno Yki Yby Ylo Yhi _ hByO (show 0 ≤ ype.toInt ∧ ype.toInt ≤ 5 by omega) (show 0 ≤ ytk.toInt ∧ ytk.toInt ≤ 6 by omega)) (cwV 2 hts gL_law_X4_meet rfl rfl rfl (by decide +kernel) ⟨by rw [hR]; decide, by rw [hR]; decide⟩) hK hP hD hS hA [36, 40, 38, 46, 47, 48] [0, 1, 2, 3, 4, 5, 6, 7, 8, 9, 10, 11, 12, 13, 14, 15, 16, 17, 18, 19, 20, 21, 22, 23, 24, 25, 26, 27, 28, 29, 30, 31, 32, 33, 34, 35, 37, 39, 41, 42, 43, 44, 45, 49, 50, 51, 52, 53, 54, 55] rfl rfl (by decide) (by decide +kernel) (by decide +kernel) rfl 36 rfl hl.1 rfl rfl (Nat.le_of_ble_eq_true rfl) dL_law_466 ⟨by rw [hR]; exact (show _ ≤ 600000 by omega), by rw [hR]; exact (show _ ≤ 7302250 by omega)⟩ (fun r_19 u_20 H locs hw hP hD hS => ?_)
  obtain ⟨Gno_15, Gby_16, Glo_17, Ghi_18⟩ := u_20
  obtain ⟨hP, hD⟩ := PD_subF (X' := WXY cI cZ cM x0 y0 tx le td dr nw ac fa an kp ks sp ss sy sc sd tr ia Ftx lpe ltk lho lli lki lfd lfr lto lse lhl lFho lFli lFki lFfd lFfr lFto lFse lFhl dpe dtk dho dli dki dfd dfr dto dse dhl dFho dFli dFki dFfd dFfr dFto dFse dFhl md mt mr mg mat mfd mhd mFat mFfd mFhd Fac Fkp Fsp Fss Fsy mo rd zd1_3 zt1_4 zr1_5 zg1_6 zat zfd zhd Gzat_7 Gzfd_8 Gzhd_9 Grd_10 Fia ype ytk ywi yki yse yno yrh yrw yrk yrt yrp yrq ytx yle yat yfa yby ylo yhi yac ynx yro ygl ysn yso ysp ysw ysd yik ykp Ywi Yki Yse Gno_15 Yrh Yrw Yrk Yrt Ytx Gby_16 Glo_17 Ghi_18 Yro Ygl Yso Ysp Ysw Yik Ykp) hP hD [0, 1, 2, 3, 4, 5, 6, 7, 8, 9, 10, 11, 12, 13, 14, 15, 16, 17, 18, 19, 20, 21, 22, 23, 24, 25, 26, 27, 28, 29, 30, 31, 32, 33, 34, 35, 50, 36, 52, 37, 51, 38, 39, 40, 41, 42, 53, 54, 55, 43, 44, 45, 46, 47, 48, 49] (by decide +kernel) rfl
  delta WXY at hP hD
  refine W.widen (k := c0) (n := s0) (Nat.le_refl _) (Nat.le_refl _) ?_
  have hw : ByOk Gby_16 := hw
  have hw_21 := hw
  refine lv_pop hx hb dL_law_469 rfl ?_
  refine lv_goto (tgt := 969) hx hb dL_law_470 (by decide) ?_
  refine W.widen (k := c0 + 4) (n := s0 + 27) (by omega) (by omega) ?_
  exact hNext _ _ _ (stw_intro hP hD ⟨⟨hle0, hle1⟩, ⟨hfa0, hfa1⟩, ⟨han0, han1⟩, ⟨hsc0, hsc1⟩, ⟨hlpe0, hlpe1⟩, ⟨hltk0, hltk1⟩, ⟨hmd0, hmd1⟩, ⟨hmt0, hmt1⟩, ⟨hype0, hype1⟩, ⟨hytk0, hytk1⟩, ⟨hyle0, hyle1⟩, ⟨hyac0, hyac1⟩, ⟨hynx0, hynx1⟩, ⟨hysn0, hysn1⟩, hPoA, hPoK, hMsO, hw_21, hle, hsd, hTX, hTxO, hlpt, hsct⟩) hS (lv_sub hl [0, 1, 2, 3] rfl)

set_option maxHeartbeats 1000000 in
set_option maxRecDepth 100000 in
theorem law_c13 {p : Program} {l : Launch} {e : Env} {s : State} {m : MethodId} {below : List Frame} {meth : Method} {c : Code} {b LN : Nat} {xs : Nat → Int32} {A : Nat → Prop} {args : Array Value} {R : Room} {Q : State → Prop} (hB : Lb p s m args meth c b xs A LN) (hR : R = room_1) (D : va_G) (cI cZ cM : ClassId) (hK : va_K D vwCl (ty3 cI cZ cM) s) {x0 y0 : Nat} {H : Heap} {locs : List Loc} {ls : Array Slot} {c0 s0 : Nat} (hc : c0 + 4 ≤ 600000) (hs : s0 + 27 ≤ 7302250) {ix : Int32} (hixa : 0 ≤ ix.toInt) (hixb : ix.toInt + 5 ≤ (LN : Int)) (hLN : LN ≤ 320) (hSt : StW D cI cZ cM A x0 y0 H) (hS : va_S A s.heap H locs) (hl : lv_has ls 4 [(0, .ref b), (1, .ref x0), (2, .ref y0), (3, .int ix)]) (hNext : ∀ (H : Heap) (locs : List Loc) (ls : Array Slot), StW D cI cZ cM A x0 y0 H → va_S A s.heap H locs → lv_has ls 4 [(0, .ref b), (1, .ref x0), (2, .ref y0), (3, .int ix)] → W p l e R s m args below meth c H locs (c0 + 4) (s0 + 27) Q (F0 m 969 ls [])) : W p l e R s m args below meth c H locs c0 s0 Q (F0 m 473 ls []) := by
  obtain ⟨hx, hb, hr, hml, hown, hts, hX, hbl, hlocks, hA, hAf⟩ := hB
  have hbA : ¬ A b := fun q => absurd (hAf b q) (Nat.not_le.mpr hbl)
  refine stw_elim hSt ?_
  intro tx le td dr nw ac fa an kp ks sp ss sy sc sd tr ia Ftx lpe ltk lho lli lki lfd lfr lto lse lhl lFho lFli lFki lFfd lFfr lFto lFse lFhl dpe dtk dho dli dki dfd dfr dto dse dhl dFho dFli dFki dFfd dFfr dFto dFse dFhl md mt mr mg mat mfd mhd mFat mFfd mFhd Fac Fkp Fsp Fss Fsy mo rd zd zt zr zg zat zfd zhd zFat zFfd zFhd Frd Fia ype ytk ywi yki yse yno yrh yrw yrk yrt yrp yrq ytx yle yat yfa yby ylo yhi yac ynx yro ygl ysn yso ysp ysw ysd yik ykp Ywi Yki Yse Yno Yrh Yrw Yrk Yrt Ytx Yby Ylo Yhi Yro Ygl Yso Ysp Ysw Yik Ykp L hI hP hD
  obtain ⟨⟨hle0, hle1⟩, ⟨hfa0, hfa1⟩, ⟨han0, han1⟩, ⟨hsc0, hsc1⟩, ⟨hlpe0, hlpe1⟩, ⟨hltk0, hltk1⟩, ⟨hmd0, hmd1⟩, ⟨hmt0, hmt1⟩, ⟨hype0, hype1⟩, ⟨hytk0, hytk1⟩, ⟨hyle0, hyle1⟩, ⟨hyac0, hyac1⟩, ⟨hynx0, hynx1⟩, ⟨hysn0, hysn1⟩, hPoA, hPoK, hMsO, hByO, hle, hsd, hTX, hTxO, hlpt, hsct⟩ := hI
  have hlet : le.toInt = yle.toInt := by rw [hle]
  have hTxY : TxOk Ytx := hTX ▸ hTxO
  have hFL : flt Ytx yle.toInt = flt Ftx le.toInt := by rw [hTX, hle]
  have hFL_1 : (flt Ytx yle.toInt).1 = (flt Ftx le.toInt).1 := by rw [hFL]
  have hFL_2_1 : (flt Ytx yle.toInt).2.1 = (flt Ftx le.toInt).2.1 := by rw [hFL]
  have hFL_2_2 : (flt Ytx yle.toInt).2.2 = (flt Ftx le.toInt).2.2 := by rw [hFL]
  have hsdt : sd.toInt = ysd.toInt := by rw [hsd]
  obtain ⟨a1, ha1⟩ : ∃ z : Int32, xs (ix + 1 : Int32).toNatClampNeg = z := ⟨_, rfl⟩
  obtain ⟨a2, ha2⟩ : ∃ z : Int32, xs (ix + 2 : Int32).toNatClampNeg = z := ⟨_, rfl⟩
  obtain ⟨a3, ha3⟩ : ∃ z : Int32, xs (ix + 3 : Int32).toNatClampNeg = z := ⟨_, rfl⟩
  obtain ⟨a4, ha4⟩ : ∃ z : Int32, xs (ix + 4 : Int32).toNatClampNeg = z := ⟨_, rfl⟩
  refine lv_aload_n hx hb dL_law_473 rfl (lv_at hl 1 rfl) ?_
  refine fV_i (As := []) (rest := []) ⟨hx, hb, hml, hown, hts⟩ (c_X3_twoSeats l D cI cZ cM x0 tx le td dr nw ac fa an kp ks sp ss sy sc sd tr ia lpe ltk lho lli lki lfd lfr lto lse lhl lFto lFfr lFki lFse md mt mr mg mat mfd mhd mFat mFfd mFhd mo rd zd zt zr zg zat zfd zhd zFat zFfd zFhd Frd _ (show 0 ≤ md.toInt ∧ md.toInt ≤ 10 by omega) (show 0 ≤ mt.toInt ∧ mt.toInt ≤ 6 by omega) (show 0 ≤ lpe.toInt ∧ lpe.toInt ≤ 5 by omega)) (cwV 0 hts gL_law_X3_twoSeats rfl rfl rfl (by decide +kernel) ⟨by rw [hR]; decide, by rw [hR]; decide⟩) hK hP hD hS hA [0, 2, 8, 7, 5, 9, 20, 21, 22, 23, 29, 30, 31, 32, 33, 34] [1, 3, 4, 6, 10, 11, 12, 13, 14, 15, 16, 17, 18, 19, 24, 25, 26, 27, 28, 35, 36, 37, 38, 39, 40, 41, 42, 43, 44, 45, 46, 47, 48, 49, 50, 51, 52, 53, 54, 55] rfl rfl (by decide +kernel) (by decide +kernel) (by decide +kernel) rfl 0 rfl hl.1 rfl rfl (Nat.le_of_ble_eq_true rfl) dL_law_474 ⟨by rw [hR]; exact (show _ ≤ 600000 by omega), by rw [hR]; exact (show _ ≤ 7302250 by omega)⟩ (fun r_9 u_10 H locs hw hP hD hS => ?_)
  obtain ⟨zd1_1, zt1_2, zr1_3, zg1_4, Gzat_5, Gzfd_6, Gzhd_7, Grd_8⟩ := u_10
  obtain ⟨hP, hD⟩ := PD_subF (X' := WXY cI cZ cM x0 y0 tx le td dr nw ac fa an kp ks sp ss sy sc sd tr ia Ftx lpe ltk lho lli lki lfd lfr lto lse lhl lFho lFli lFki lFfd lFfr lFto lFse lFhl dpe dtk dho dli dki dfd dfr dto dse dhl dFho dFli dFki dFfd dFfr dFto dFse dFhl md mt mr mg mat mfd mhd mFat mFfd mFhd Fac Fkp Fsp Fss Fsy mo rd zd1_1 zt1_2 zr1_3 zg1_4 zat zfd zhd Gzat_5 Gzfd_6 Gzhd_7 Grd_8 Fia ype ytk ywi yki yse yno yrh yrw yrk yrt yrp yrq ytx yle yat yfa yby ylo yhi yac ynx yro ygl ysn yso ysp ysw ysd yik ykp Ywi Yki Yse Yno Yrh Yrw Yrk Yrt Ytx Yby Ylo Yhi Yro Ygl Yso Ysp Ysw Yik Ykp) hP hD [40, 0, 41, 1, 2, 44, 3, 43, 42, 45, 4, 5, 6, 7, 8, 9, 10, 11, 12, 13, 46, 47, 48, 49, 14, 15, 16, 17, 18, 50, 51, 52, 53, 54, 55, 19, 20, 21, 22, 23, 24, 25, 26, 27, 28, 29, 30, 31, 32, 33, 34, 35, 36, 37, 38, 39] (by decide +kernel) rfl
  delta WXY at hP hD
  refine W.widen (k := c0) (n := s0) (Nat.le_refl _) (Nat.le_refl _) ?_
  refine lv_pop hx hb dL_law_477 rfl ?_
  refine lv_aload_n hx hb dL_law_478 rfl (lv_at hl 2 rfl) ?_
  refine fV_i (As := []) (rest := []) ⟨hx, hb, hml, hown, hts⟩ (c_X4_twoSeats l D cI cZ cM y0 ype ytk ywi yki yse yno yrh yrw yrk yrt yrp yrq ytx yle yat yfa yby ylo yhi yac ynx yro ygl ysn yso ysp ysw ysd yik ykp Yno Yki Yby Ylo Yhi Yse _ hByO (show 0 ≤ ype.toInt ∧ ype.toInt ≤ 5 by omega) (show 0 ≤ ytk.toInt ∧ ytk.toInt ≤ 6 by omega)) (cwV 0 hts gL_law_X4_twoSeats rfl rfl rfl (by decide +kernel) ⟨by rw [hR]; decide, by rw [hR]; decide⟩) hK hP hD hS hA [36, 40, 38, 46, 47, 48, 39] [0, 1, 2, 3, 4, 5, 6, 7, 8, 9, 10, 11, 12, 13, 14, 15, 16, 17, 18, 19, 20, 21, 22, 23, 24, 25, 26, 27, 28, 29, 30, 31, 32, 33, 34, 35, 37, 41, 42, 43, 44, 45, 49, 50, 51, 52, 53, 54, 55] rfl rfl (by decide) (by decide +kernel) (by decide +kernel) rfl 36 rfl hl.1 rfl rfl (Nat.le_of_ble_eq_true rfl) dL_law_479 ⟨by rw [hR]; exact (show _ ≤ 600000 by omega), by rw [hR]; exact (show _ ≤ 7302250 by omega)⟩ (fun r_15 u_16 H locs hw hP hD hS => ?_)
  obtain ⟨Gno_11, Gby_12, Glo_13, Ghi_14⟩ := u_16
  obtain ⟨hP, hD⟩ := PD_subF (X' := WXY cI cZ cM x0 y0 tx le td dr nw ac fa an kp ks sp ss sy sc sd tr ia Ftx lpe ltk lho lli lki lfd lfr lto lse lhl lFho lFli lFki lFfd lFfr lFto lFse lFhl dpe dtk dho dli dki dfd dfr dto dse dhl dFho dFli dFki dFfd dFfr dFto dFse dFhl md mt mr mg mat mfd mhd mFat mFfd mFhd Fac Fkp Fsp Fss Fsy mo rd zd1_1 zt1_2 zr1_3 zg1_4 zat zfd zhd Gzat_5 Gzfd_6 Gzhd_7 Grd_8 Fia ype ytk ywi yki yse yno yrh yrw yrk yrt yrp yrq ytx yle yat yfa yby ylo yhi yac ynx yro ygl ysn yso ysp ysw ysd yik ykp Ywi Yki Yse Gno_11 Yrh Yrw Yrk Yrt Ytx Gby_12 Glo_13 Ghi_14 Yro Ygl Yso Ysp Ysw Yik Ykp) hP hD [0, 1, 2, 3, 4, 5, 6, 7, 8, 9, 10, 11, 12, 13, 14, 15, 16, 17, 18, 19, 20, 21, 22, 23, 24, 25, 26, 27, 28, 29, 30, 31, 32, 33, 34, 35, 49, 36, 51, 55, 50, 37, 38, 39, 40, 41, 52, 53, 54, 42, 43, 44, 45, 46, 47, 48] (by decide +kernel) rfl
  delta WXY at hP hD
  refine W.widen (k := c0) (n := s0) (Nat.le_refl _) (Nat.le_refl _) ?_
  have hw : ByOk Gby_12 := hw
  have hw_17 := hw
  refine lv_pop hx hb dL_law_482 rfl ?_
  refine lv_goto (tgt := 969) hx hb dL_law_483 (by decide) ?_
  refine W.widen (k := c0 + 4) (n := s0 + 27) (by omega) (by omega) ?_
  exact hNext _ _ _ (stw_intro hP hD ⟨⟨hle0, hle1⟩, ⟨hfa0, hfa1⟩, ⟨han0, han1⟩, ⟨hsc0, hsc1⟩, ⟨hlpe0, hlpe1⟩, ⟨hltk0, hltk1⟩, ⟨hmd0, hmd1⟩, ⟨hmt0, hmt1⟩, ⟨hype0, hype1⟩, ⟨hytk0, hytk1⟩, ⟨hyle0, hyle1⟩, ⟨hyac0, hyac1⟩, ⟨hynx0, hynx1⟩, ⟨hysn0, hysn1⟩, hPoA, hPoK, hMsO, hw_17, hle, hsd, hTX, hTxO, hlpt, hsct⟩) hS (lv_sub hl [0, 1, 2, 3] rfl)

set_option maxHeartbeats 1000000 in
set_option maxRecDepth 100000 in
theorem law_c14 {p : Program} {l : Launch} {e : Env} {s : State} {m : MethodId} {below : List Frame} {meth : Method} {c : Code} {b LN : Nat} {xs : Nat → Int32} {A : Nat → Prop} {args : Array Value} {R : Room} {Q : State → Prop} (hB : Lb p s m args meth c b xs A LN) (hR : R = room_1) (D : va_G) (cI cZ cM : ClassId) (hK : va_K D vwCl (ty3 cI cZ cM) s) {x0 y0 : Nat} {H : Heap} {locs : List Loc} {ls : Array Slot} {c0 s0 : Nat} (hc : c0 + 4 ≤ 600000) (hs : s0 + 27 ≤ 7302250) {ix : Int32} (hixa : 0 ≤ ix.toInt) (hixb : ix.toInt + 5 ≤ (LN : Int)) (hLN : LN ≤ 320) (hSt : StW D cI cZ cM A x0 y0 H) (hS : va_S A s.heap H locs) (hl : lv_has ls 4 [(0, .ref b), (1, .ref x0), (2, .ref y0), (3, .int ix)]) (hNext : ∀ (H : Heap) (locs : List Loc) (ls : Array Slot), StW D cI cZ cM A x0 y0 H → va_S A s.heap H locs → lv_has ls 4 [(0, .ref b), (1, .ref x0), (2, .ref y0), (3, .int ix)] → W p l e R s m args below meth c H locs (c0 + 4) (s0 + 27) Q (F0 m 969 ls [])) : W p l e R s m args below meth c H locs c0 s0 Q (F0 m 486 ls []) := by
  obtain ⟨hx, hb, hr, hml, hown, hts, hX, hbl, hlocks, hA, hAf⟩ := hB
  have hbA : ¬ A b := fun q => absurd (hAf b q) (Nat.not_le.mpr hbl)
  refine stw_elim hSt ?_
  intro tx le td dr nw ac fa an kp ks sp ss sy sc sd tr ia Ftx lpe ltk lho lli lki lfd lfr lto lse lhl lFho lFli lFki lFfd lFfr lFto lFse lFhl dpe dtk dho dli dki dfd dfr dto dse dhl dFho dFli dFki dFfd dFfr dFto dFse dFhl md mt mr mg mat mfd mhd mFat mFfd mFhd Fac Fkp Fsp Fss Fsy mo rd zd zt zr zg zat zfd zhd zFat zFfd zFhd Frd Fia ype ytk ywi yki yse yno yrh yrw yrk yrt yrp yrq ytx yle yat yfa yby ylo yhi yac ynx yro ygl ysn yso ysp ysw ysd yik ykp Ywi Yki Yse Yno Yrh Yrw Yrk Yrt Ytx Yby Ylo Yhi Yro Ygl Yso Ysp Ysw Yik Ykp L hI hP hD
  obtain ⟨⟨hle0, hle1⟩, ⟨hfa0, hfa1⟩, ⟨han0, han1⟩, ⟨hsc0, hsc1⟩, ⟨hlpe0, hlpe1⟩, ⟨hltk0, hltk1⟩, ⟨hmd0, hmd1⟩, ⟨hmt0, hmt1⟩, ⟨hype0, hype1⟩, ⟨hytk0, hytk1⟩, ⟨hyle0, hyle1⟩, ⟨hyac0, hyac1⟩, ⟨hynx0, hynx1⟩, ⟨hysn0, hysn1⟩, hPoA, hPoK, hMsO, hByO, hle, hsd, hTX, hTxO, hlpt, hsct⟩ := hI
  have hlet : le.toInt = yle.toInt := by rw [hle]
  have hTxY : TxOk Ytx := hTX ▸ hTxO
  have hFL : flt Ytx yle.toInt = flt Ftx le.toInt := by rw [hTX, hle]
  have hFL_1 : (flt Ytx yle.toInt).1 = (flt Ftx le.toInt).1 := by rw [hFL]
  have hFL_2_1 : (flt Ytx yle.toInt).2.1 = (flt Ftx le.toInt).2.1 := by rw [hFL]
  have hFL_2_2 : (flt Ytx yle.toInt).2.2 = (flt Ftx le.toInt).2.2 := by rw [hFL]
  have hsdt : sd.toInt = ysd.toInt := by rw [hsd]
  obtain ⟨a1, ha1⟩ : ∃ z : Int32, xs (ix + 1 : Int32).toNatClampNeg = z := ⟨_, rfl⟩
  obtain ⟨a2, ha2⟩ : ∃ z : Int32, xs (ix + 2 : Int32).toNatClampNeg = z := ⟨_, rfl⟩
  obtain ⟨a3, ha3⟩ : ∃ z : Int32, xs (ix + 3 : Int32).toNatClampNeg = z := ⟨_, rfl⟩
  obtain ⟨a4, ha4⟩ : ∃ z : Int32, xs (ix + 4 : Int32).toNatClampNeg = z := ⟨_, rfl⟩
  refine lv_aload_n hx hb dL_law_486 rfl (lv_at hl 1 rfl) ?_
  refine lv_aload_n hx hb dL_law_487 rfl (lv_at hl 0 rfl) ?_
  refine lv_iload_n hx hb dL_law_488 rfl (lv_at hl 3 rfl) ?_
  refine lv_iconst (v := 1) hx hb dL_law_489 (by decide) ?_
  refine lv_iadd hx hb dL_law_490 ?_
  refine lv_topi (fun v_1 ev_1 => ?_)
  have tv_1 : v_1.toInt = ix.toInt + (1 : Int) := by rw [ev_1]; exact ti_add (x := ix) (y := 1) (show -2147483648 ≤ ix.toInt + (1 : Int) by omega) (show ix.toInt + (1 : Int) < 2147483648 by omega)
  refine va_sld hx hb hX hbl hbA hS (vp_in_iff.mpr ⟨by omega, by omega⟩) dL_law_491 ?_
  refine lv_topc (y := a1) (by rw [ev_1]; exact ha1) ?_
  refine lv_aload_n hx hb dL_law_492 rfl (lv_at hl 0 rfl) ?_
  refine lv_iload_n hx hb dL_law_493 rfl (lv_at hl 3 rfl) ?_
  refine lv_iconst (v := 2) hx hb dL_law_494 (by decide) ?_
  refine lv_iadd hx hb dL_law_495 ?_
  refine lv_topi (fun v_2 ev_2 => ?_)
  have tv_2 : v_2.toInt = ix.toInt + (2 : Int) := by rw [ev_2]; exact ti_add (x := ix) (y := 2) (show -2147483648 ≤ ix.toInt + (2 : Int) by omega) (show ix.toInt + (2 : Int) < 2147483648 by omega)
  refine va_sld hx hb hX hbl hbA hS (vp_in_iff.mpr ⟨by omega, by omega⟩) dL_law_496 ?_
  refine lv_topc (y := a2) (by rw [ev_2]; exact ha2) ?_
  refine lv_aload_n hx hb dL_law_497 rfl (lv_at hl 0 rfl) ?_
  refine lv_iload_n hx hb dL_law_498 rfl (lv_at hl 3 rfl) ?_
  refine lv_iconst (v := 3) hx hb dL_law_499 (by decide) ?_
  refine lv_iadd hx hb dL_law_500 ?_
  refine lv_topi (fun v_3 ev_3 => ?_)
  have tv_3 : v_3.toInt = ix.toInt + (3 : Int) := by rw [ev_3]; exact ti_add (x := ix) (y := 3) (show -2147483648 ≤ ix.toInt + (3 : Int) by omega) (show ix.toInt + (3 : Int) < 2147483648 by omega)
  refine va_sld hx hb hX hbl hbA hS (vp_in_iff.mpr ⟨by omega, by omega⟩) dL_law_501 ?_
  refine lv_topc (y := a3) (by rw [ev_3]; exact ha3) ?_
  refine lv_if_eq (tgt := 509) hx hb dL_law_502 (by decide) (fun c_4 => ?_) (fun c_4 => ?_)
  · have tc_4 := b_eq rfl (show (0 : Int32).toInt = 0 by decide) c_4
    refine lv_iconst (v := 0) hx hb dL_law_509 (by decide) ?_
    refine fV_i (As := [.int a1, .int a2, .int 0]) (rest := []) ⟨hx, hb, hml, hown, hts⟩ (c_X3_fewest l D cI cZ cM x0 a1 a2 0 tx le td dr nw ac fa an kp ks sp ss sy sc sd tr ia lpe ltk lho lli lki lfd lfr lto lse lhl lFto lFfr lFki md mt mr mg mat mfd mhd mFat mFfd mFhd mo rd zd zt zr zg zat zfd zhd zFat zFfd zFhd Frd _ (show 0 ≤ md.toInt ∧ md.toInt ≤ 10 by omega) (show 0 ≤ mt.toInt ∧ mt.toInt ≤ 6 by omega) (show 0 ≤ lpe.toInt ∧ lpe.toInt ≤ 5 by omega) (show 0 ≤ ltk.toInt ∧ ltk.toInt ≤ 6 by omega)) (cwV 3 hts gL_law_X3_fewest rfl rfl rfl (by decide +kernel) ⟨by rw [hR]; decide, by rw [hR]; decide⟩) hK hP hD hS hA [0, 2, 8, 7, 5, 20, 21, 22, 23, 29, 30, 31, 32, 33, 34] [1, 3, 4, 6, 9, 10, 11, 12, 13, 14, 15, 16, 17, 18, 19, 24, 25, 26, 27, 28, 35, 36, 37, 38, 39, 40, 41, 42, 43, 44, 45, 46, 47, 48, 49, 50, 51, 52, 53, 54, 55] rfl rfl (by decide +kernel) (by decide +kernel) (by decide +kernel) rfl 0 rfl hl.1 rfl rfl (Nat.le_of_ble_eq_true rfl) dL_law_510 ⟨by rw [hR]; exact (show _ ≤ 600000 by omega), by rw [hR]; exact (show _ ≤ 7302250 by omega)⟩ (fun r_13 u_14 H locs hw hP hD hS => ?_)
    obtain ⟨zd1_5, zt1_6, zr1_7, zg1_8, Gzat_9, Gzfd_10, Gzhd_11, Grd_12⟩ := u_14
    obtain ⟨hP, hD⟩ := PD_subF (X' := WXY cI cZ cM x0 y0 tx le td dr nw ac fa an kp ks sp ss sy sc sd tr ia Ftx lpe ltk lho lli lki lfd lfr lto lse lhl lFho lFli lFki lFfd lFfr lFto lFse lFhl dpe dtk dho dli dki dfd dfr dto dse dhl dFho dFli dFki dFfd dFfr dFto dFse dFhl md mt mr mg mat mfd mhd mFat mFfd mFhd Fac Fkp Fsp Fss Fsy mo rd zd1_5 zt1_6 zr1_7 zg1_8 zat zfd zhd Gzat_9 Gzfd_10 Gzhd_11 Grd_12 Fia ype ytk ywi yki yse yno yrh yrw yrk yrt yrp yrq ytx yle yat yfa yby ylo yhi yac ynx yro ygl ysn yso ysp ysw ysd yik ykp Ywi Yki Yse Yno Yrh Yrw Yrk Yrt Ytx Yby Ylo Yhi Yro Ygl Yso Ysp Ysw Yik Ykp) hP hD [41, 0, 42, 1, 2, 45, 3, 44, 43, 4, 5, 6, 7, 8, 9, 10, 11, 12, 13, 14, 46, 47, 48, 49, 15, 16, 17, 18, 19, 50, 51, 52, 53, 54, 55, 20, 21, 22, 23, 24, 25, 26, 27, 28, 29, 30, 31, 32, 33, 34, 35, 36, 37, 38, 39, 40] (by decide +kernel) rfl
    delta WXY at hP hD
    refine W.widen (k := c0) (n := s0) (Nat.le_refl _) (Nat.le_refl _) ?_
    refine lv_pop hx hb dL_law_513 rfl ?_
    refine lv_aload_n hx hb dL_law_514 rfl (lv_at hl 2 rfl) ?_
    refine lv_aload_n hx hb dL_law_515 rfl (lv_at hl 0 rfl) ?_
    refine lv_iload_n hx hb dL_law_516 rfl (lv_at hl 3 rfl) ?_
    refine lv_iconst (v := 1) hx hb dL_law_517 (by decide) ?_
    refine lv_iadd hx hb dL_law_518 ?_
    refine lv_topi (fun v_15 ev_15 => ?_)
    have tv_15 : v_15.toInt = ix.toInt + (1 : Int) := by rw [ev_15]; exact ti_add (x := ix) (y := 1) (show -2147483648 ≤ ix.toInt + (1 : Int) by omega) (show ix.toInt + (1 : Int) < 2147483648 by omega)
    refine va_sld hx hb hX hbl hbA hS (vp_in_iff.mpr ⟨by omega, by omega⟩) dL_law_519 ?_
    refine lv_topc (y := a1) (by rw [ev_15]; exact ha1) ?_
    refine lv_aload_n hx hb dL_law_520 rfl (lv_at hl 0 rfl) ?_
    refine lv_iload_n hx hb dL_law_521 rfl (lv_at hl 3 rfl) ?_
    refine lv_iconst (v := 2) hx hb dL_law_522 (by decide) ?_
    refine lv_iadd hx hb dL_law_523 ?_
    refine lv_topi (fun v_16 ev_16 => ?_)
    have tv_16 : v_16.toInt = ix.toInt + (2 : Int) := by rw [ev_16]; exact ti_add (x := ix) (y := 2) (show -2147483648 ≤ ix.toInt + (2 : Int) by omega) (show ix.toInt + (2 : Int) < 2147483648 by omega)
    refine va_sld hx hb hX hbl hbA hS (vp_in_iff.mpr ⟨by omega, by omega⟩) dL_law_524 ?_
    refine lv_topc (y := a2) (by rw [ev_16]; exact ha2) ?_
    refine lv_aload_n hx hb dL_law_525 rfl (lv_at hl 0 rfl) ?_
    refine lv_iload_n hx hb dL_law_526 rfl (lv_at hl 3 rfl) ?_
    refine lv_iconst (v := 3) hx hb dL_law_527 (by decide) ?_
    refine lv_iadd hx hb dL_law_528 ?_
    refine lv_topi (fun v_17 ev_17 => ?_)
    have tv_17 : v_17.toInt = ix.toInt + (3 : Int) := by rw [ev_17]; exact ti_add (x := ix) (y := 3) (show -2147483648 ≤ ix.toInt + (3 : Int) by omega) (show ix.toInt + (3 : Int) < 2147483648 by omega)
    refine va_sld hx hb hX hbl hbA hS (vp_in_iff.mpr ⟨by omega, by omega⟩) dL_law_529 ?_
    refine lv_topc (y := a3) (by rw [ev_17]; exact ha3) ?_
    refine lv_if_eq (tgt := 537) hx hb dL_law_530 (by decide) (fun c_18 => ?_) (fun c_18 => ?_)
    · have tc_18 := b_eq rfl (show (0 : Int32).toInt = 0 by decide) c_18
      refine lv_iconst (v := 0) hx hb dL_law_537 (by decide) ?_
      refine fV_i (As := [.int a1, .int a2, .int 0]) (rest := []) ⟨hx, hb, hml, hown, hts⟩ (c_X4_fewest l D cI cZ cM y0 a1 a2 0 ype ytk ywi yki yse yno yrh yrw yrk yrt yrp yrq ytx yle yat yfa yby ylo yhi yac ynx yro ygl ysn yso ysp ysw ysd yik ykp Yno Yki Yby Ylo Yhi _ hByO (show 0 ≤ ype.toInt ∧ ype.toInt ≤ 5 by omega) (show 0 ≤ ytk.toInt ∧ ytk.toInt ≤ 6 by omega)) (cwV 3 hts gL_law_X4_fewest rfl rfl rfl (by decide +kernel) ⟨by rw [hR]; decide, by rw [hR]; decide⟩) hK hP hD hS hA [36, 40, 38, 46, 47, 48] [0, 1, 2, 3, 4, 5, 6, 7, 8, 9, 10, 11, 12, 13, 14, 15, 16, 17, 18, 19, 20, 21, 22, 23, 24, 25, 26, 27, 28, 29, 30, 31, 32, 33, 34, 35, 37, 39, 41, 42, 43, 44, 45, 49, 50, 51, 52, 53, 54, 55] rfl rfl (by decide) (by decide +kernel) (by decide +kernel) rfl 36 rfl hl.1 rfl rfl (Nat.le_of_ble_eq_true rfl) dL_law_538 ⟨by rw [hR]; exact (show _ ≤ 600000 by omega), by rw [hR]; exact (show _ ≤ 7302250 by omega)⟩ (fun r_23 u_24 H locs hw hP hD hS => ?_)
      obtain ⟨Gno_19, Gby_20, Glo_21, Ghi_22⟩ := u_24
      obtain ⟨hP, hD⟩ := PD_subF (X' := WXY cI cZ cM x0 y0 tx le td dr nw ac fa an kp ks sp ss sy sc sd tr ia Ftx lpe ltk lho lli lki lfd lfr lto lse lhl lFho lFli lFki lFfd lFfr lFto lFse lFhl dpe dtk dho dli dki dfd dfr dto dse dhl dFho dFli dFki dFfd dFfr dFto dFse dFhl md mt mr mg mat mfd mhd mFat mFfd mFhd Fac Fkp Fsp Fss Fsy mo rd zd1_5 zt1_6 zr1_7 zg1_8 zat zfd zhd Gzat_9 Gzfd_10 Gzhd_11 Grd_12 Fia ype ytk ywi yki yse yno yrh yrw yrk yrt yrp yrq ytx yle yat yfa yby ylo yhi yac ynx yro ygl ysn yso ysp ysw ysd yik ykp Ywi Yki Yse Gno_19 Yrh Yrw Yrk Yrt Ytx Gby_20 Glo_21 Ghi_22 Yro Ygl Yso Ysp Ysw Yik Ykp) hP hD [0, 1, 2, 3, 4, 5, 6, 7, 8, 9, 10, 11, 12, 13, 14, 15, 16, 17, 18, 19, 20, 21, 22, 23, 24, 25, 26, 27, 28, 29, 30, 31, 32, 33, 34, 35, 50, 36, 52, 37, 51, 38, 39, 40, 41, 42, 53, 54, 55, 43, 44, 45, 46, 47, 48, 49] (by decide +kernel) rfl
      delta WXY at hP hD
      refine W.widen (k := c0) (n := s0) (Nat.le_refl _) (Nat.le_refl _) ?_
      have hw : ByOk Gby_20 := hw
      have hw_25 := hw
      refine lv_pop hx hb dL_law_541 rfl ?_
      refine lv_goto (tgt := 969) hx hb dL_law_542 (by decide) ?_
      refine W.widen (k := c0 + 4) (n := s0 + 27) (by omega) (by omega) ?_
      exact hNext _ _ _ (stw_intro hP hD ⟨⟨hle0, hle1⟩, ⟨hfa0, hfa1⟩, ⟨han0, han1⟩, ⟨hsc0, hsc1⟩, ⟨hlpe0, hlpe1⟩, ⟨hltk0, hltk1⟩, ⟨hmd0, hmd1⟩, ⟨hmt0, hmt1⟩, ⟨hype0, hype1⟩, ⟨hytk0, hytk1⟩, ⟨hyle0, hyle1⟩, ⟨hyac0, hyac1⟩, ⟨hynx0, hynx1⟩, ⟨hysn0, hysn1⟩, hPoA, hPoK, hMsO, hw_25, hle, hsd, hTX, hTxO, hlpt, hsct⟩) hS (lv_sub hl [0, 1, 2, 3] rfl)
    · have tc_18 := b_ne rfl (show (0 : Int32).toInt = 0 by decide) c_18
      exfalso; omega
  · have tc_4 := b_ne rfl (show (0 : Int32).toInt = 0 by decide) c_4
    refine lv_iconst (v := 1) hx hb dL_law_505 (by decide) ?_
    refine lv_goto (tgt := 510) hx hb dL_law_506 (by decide) ?_
    refine fV_i (As := [.int a1, .int a2, .int 1]) (rest := []) ⟨hx, hb, hml, hown, hts⟩ (c_X3_fewest l D cI cZ cM x0 a1 a2 1 tx le td dr nw ac fa an kp ks sp ss sy sc sd tr ia lpe ltk lho lli lki lfd lfr lto lse lhl lFto lFfr lFki md mt mr mg mat mfd mhd mFat mFfd mFhd mo rd zd zt zr zg zat zfd zhd zFat zFfd zFhd Frd _ (show 0 ≤ md.toInt ∧ md.toInt ≤ 10 by omega) (show 0 ≤ mt.toInt ∧ mt.toInt ≤ 6 by omega) (show 0 ≤ lpe.toInt ∧ lpe.toInt ≤ 5 by omega) (show 0 ≤ ltk.toInt ∧ ltk.toInt ≤ 6 by omega)) (cwV 3 hts gL_law_X3_fewest rfl rfl rfl (by decide +kernel) ⟨by rw [hR]; decide, by rw [hR]; decide⟩) hK hP hD hS hA [0, 2, 8, 7, 5, 20, 21, 22, 23, 29, 30, 31, 32, 33, 34] [1, 3, 4, 6, 9, 10, 11, 12, 13, 14, 15, 16, 17, 18, 19, 24, 25, 26, 27, 28, 35, 36, 37, 38, 39, 40, 41, 42, 43, 44, 45, 46, 47, 48, 49, 50, 51, 52, 53, 54, 55] rfl rfl (by decide +kernel) (by decide +kernel) (by decide +kernel) rfl 0 rfl hl.1 rfl rfl (Nat.le_of_ble_eq_true rfl) dL_law_510 ⟨by rw [hR]; exact (show _ ≤ 600000 by omega), by rw [hR]; exact (show _ ≤ 7302250 by omega)⟩ (fun r_34 u_35 H locs hw hP hD hS => ?_)
    obtain ⟨zd1_26, zt1_27, zr1_28, zg1_29, Gzat_30, Gzfd_31, Gzhd_32, Grd_33⟩ := u_35
    obtain ⟨hP, hD⟩ := PD_subF (X' := WXY cI cZ cM x0 y0 tx le td dr nw ac fa an kp ks sp ss sy sc sd tr ia Ftx lpe ltk lho lli lki lfd lfr lto lse lhl lFho lFli lFki lFfd lFfr lFto lFse lFhl dpe dtk dho dli dki dfd dfr dto dse dhl dFho dFli dFki dFfd dFfr dFto dFse dFhl md mt mr mg mat mfd mhd mFat mFfd mFhd Fac Fkp Fsp Fss Fsy mo rd zd1_26 zt1_27 zr1_28 zg1_29 zat zfd zhd Gzat_30 Gzfd_31 Gzhd_32 Grd_33 Fia ype ytk ywi yki yse yno yrh yrw yrk yrt yrp yrq ytx yle yat yfa yby ylo yhi yac ynx yro ygl ysn yso ysp ysw ysd yik ykp Ywi Yki Yse Yno Yrh Yrw Yrk Yrt Ytx Yby Ylo Yhi Yro Ygl Yso Ysp Ysw Yik Ykp) hP hD [41, 0, 42, 1, 2, 45, 3, 44, 43, 4, 5, 6, 7, 8, 9, 10, 11, 12, 13, 14, 46, 47, 48, 49, 15, 16, 17, 18, 19, 50, 51, 52, 53, 54, 55, 20, 21, 22, 23, 24, 25, 26, 27, 28, 29, 30, 31, 32, 33, 34, 35, 36, 37, 38, 39, 40] (by decide +kernel) rfl
    delta WXY at hP hD
    refine W.widen (k := c0) (n := s0) (Nat.le_refl _) (Nat.le_refl _) ?_
    refine lv_pop hx hb dL_law_513 rfl ?_
    refine lv_aload_n hx hb dL_law_514 rfl (lv_at hl 2 rfl) ?_
    refine lv_aload_n hx hb dL_law_515 rfl (lv_at hl 0 rfl) ?_
    refine lv_iload_n hx hb dL_law_516 rfl (lv_at hl 3 rfl) ?_
    refine lv_iconst (v := 1) hx hb dL_law_517 (by decide) ?_
    refine lv_iadd hx hb dL_law_518 ?_
    refine lv_topi (fun v_36 ev_36 => ?_)
    have tv_36 : v_36.toInt = ix.toInt + (1 : Int) := by rw [ev_36]; exact ti_add (x := ix) (y := 1) (show -2147483648 ≤ ix.toInt + (1 : Int) by omega) (show ix.toInt + (1 : Int) < 2147483648 by omega)
    refine va_sld hx hb hX hbl hbA hS (vp_in_iff.mpr ⟨by omega, by omega⟩) dL_law_519 ?_
    refine lv_topc (y := a1) (by rw [ev_36]; exact ha1) ?_
    refine lv_aload_n hx hb dL_law_520 rfl (lv_at hl 0 rfl) ?_
    refine lv_iload_n hx hb dL_law_521 rfl (lv_at hl 3 rfl) ?_
    refine lv_iconst (v := 2) hx hb dL_law_522 (by decide) ?_
    refine lv_iadd hx hb dL_law_523 ?_
    refine lv_topi (fun v_37 ev_37 => ?_)
    have tv_37 : v_37.toInt = ix.toInt + (2 : Int) := by rw [ev_37]; exact ti_add (x := ix) (y := 2) (show -2147483648 ≤ ix.toInt + (2 : Int) by omega) (show ix.toInt + (2 : Int) < 2147483648 by omega)
    refine va_sld hx hb hX hbl hbA hS (vp_in_iff.mpr ⟨by omega, by omega⟩) dL_law_524 ?_
    refine lv_topc (y := a2) (by rw [ev_37]; exact ha2) ?_
    refine lv_aload_n hx hb dL_law_525 rfl (lv_at hl 0 rfl) ?_
    refine lv_iload_n hx hb dL_law_526 rfl (lv_at hl 3 rfl) ?_
    refine lv_iconst (v := 3) hx hb dL_law_527 (by decide) ?_
    refine lv_iadd hx hb dL_law_528 ?_
    refine lv_topi (fun v_38 ev_38 => ?_)
    have tv_38 : v_38.toInt = ix.toInt + (3 : Int) := by rw [ev_38]; exact ti_add (x := ix) (y := 3) (show -2147483648 ≤ ix.toInt + (3 : Int) by omega) (show ix.toInt + (3 : Int) < 2147483648 by omega)
    refine va_sld hx hb hX hbl hbA hS (vp_in_iff.mpr ⟨by omega, by omega⟩) dL_law_529 ?_
    refine lv_topc (y := a3) (by rw [ev_38]; exact ha3) ?_
    refine lv_if_eq (tgt := 537) hx hb dL_law_530 (by decide) (fun c_39 => ?_) (fun c_39 => ?_)
    · have tc_39 := b_eq rfl (show (0 : Int32).toInt = 0 by decide) c_39
      exfalso; omega
    · have tc_39 := b_ne rfl (show (0 : Int32).toInt = 0 by decide) c_39
      refine lv_iconst (v := 1) hx hb dL_law_533 (by decide) ?_
      refine lv_goto (tgt := 538) hx hb dL_law_534 (by decide) ?_
      refine fV_i (As := [.int a1, .int a2, .int 1]) (rest := []) ⟨hx, hb, hml, hown, hts⟩ (c_X4_fewest l D cI cZ cM y0 a1 a2 1 ype ytk ywi yki yse yno yrh yrw yrk yrt yrp yrq ytx yle yat yfa yby ylo yhi yac ynx yro ygl ysn yso ysp ysw ysd yik ykp Yno Yki Yby Ylo Yhi _ hByO (show 0 ≤ ype.toInt ∧ ype.toInt ≤ 5 by omega) (show 0 ≤ ytk.toInt ∧ ytk.toInt ≤ 6 by omega)) (cwV 3 hts gL_law_X4_fewest rfl rfl rfl (by decide +kernel) ⟨by rw [hR]; decide, by rw [hR]; decide⟩) hK hP hD hS hA [36, 40, 38, 46, 47, 48] [0, 1, 2, 3, 4, 5, 6, 7, 8, 9, 10, 11, 12, 13, 14, 15, 16, 17, 18, 19, 20, 21, 22, 23, 24, 25, 26, 27, 28, 29, 30, 31, 32, 33, 34, 35, 37, 39, 41, 42, 43, 44, 45, 49, 50, 51, 52, 53, 54, 55] rfl rfl (by decide) (by decide +kernel) (by decide +kernel) rfl 36 rfl hl.1 rfl rfl (Nat.le_of_ble_eq_true rfl) dL_law_538 ⟨by rw [hR]; exact (show _ ≤ 600000 by omega), by rw [hR]; exact (show _ ≤ 7302250 by omega)⟩ (fun r_44 u_45 H locs hw hP hD hS => ?_)
      obtain ⟨Gno_40, Gby_41, Glo_42, Ghi_43⟩ := u_45
      obtain ⟨hP, hD⟩ := PD_subF (X' := WXY cI cZ cM x0 y0 tx le td dr nw ac fa an kp ks sp ss sy sc sd tr ia Ftx lpe ltk lho lli lki lfd lfr lto lse lhl lFho lFli lFki lFfd lFfr lFto lFse lFhl dpe dtk dho dli dki dfd dfr dto dse dhl dFho dFli dFki dFfd dFfr dFto dFse dFhl md mt mr mg mat mfd mhd mFat mFfd mFhd Fac Fkp Fsp Fss Fsy mo rd zd1_26 zt1_27 zr1_28 zg1_29 zat zfd zhd Gzat_30 Gzfd_31 Gzhd_32 Grd_33 Fia ype ytk ywi yki yse yno yrh yrw yrk yrt yrp yrq ytx yle yat yfa yby ylo yhi yac ynx yro ygl ysn yso ysp ysw ysd yik ykp Ywi Yki Yse Gno_40 Yrh Yrw Yrk Yrt Ytx Gby_41 Glo_42 Ghi_43 Yro Ygl Yso Ysp Ysw Yik Ykp) hP hD [0, 1, 2, 3, 4, 5, 6, 7, 8, 9, 10, 11, 12, 13, 14, 15, 16, 17, 18, 19, 20, 21, 22, 23, 24, 25, 26, 27, 28, 29, 30, 31, 32, 33, 34, 35, 50, 36, 52, 37, 51, 38, 39, 40, 41, 42, 53, 54, 55, 43, 44, 45, 46, 47, 48, 49] (by decide +kernel) rfl
      delta WXY at hP hD
      refine W.widen (k := c0) (n := s0) (Nat.le_refl _) (Nat.le_refl _) ?_
      have hw : ByOk Gby_41 := hw
      have hw_46 := hw
      refine lv_pop hx hb dL_law_541 rfl ?_
      refine lv_goto (tgt := 969) hx hb dL_law_542 (by decide) ?_
      refine W.widen (k := c0 + 4) (n := s0 + 27) (by omega) (by omega) ?_
      exact hNext _ _ _ (stw_intro hP hD ⟨⟨hle0, hle1⟩, ⟨hfa0, hfa1⟩, ⟨han0, han1⟩, ⟨hsc0, hsc1⟩, ⟨hlpe0, hlpe1⟩, ⟨hltk0, hltk1⟩, ⟨hmd0, hmd1⟩, ⟨hmt0, hmt1⟩, ⟨hype0, hype1⟩, ⟨hytk0, hytk1⟩, ⟨hyle0, hyle1⟩, ⟨hyac0, hyac1⟩, ⟨hynx0, hynx1⟩, ⟨hysn0, hysn1⟩, hPoA, hPoK, hMsO, hw_46, hle, hsd, hTX, hTxO, hlpt, hsct⟩) hS (lv_sub hl [0, 1, 2, 3] rfl)
