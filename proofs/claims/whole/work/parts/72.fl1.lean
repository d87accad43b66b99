/-! where the law's instructions stand -/
theorem fl_16 : fe 329 16 = some (16, .iconst 0, 1) := by decide +kernel
theorem fl_17 : fe 329 17 = some (17, .istore 3, 1) := by decide +kernel
theorem fl_18 : fe 329 18 = some (18, .iload 3, 1) := by decide +kernel
theorem fl_19 : fe 329 19 = some (19, .aload 0, 1) := by decide +kernel
theorem fl_20 : fe 329 20 = some (20, .arraylength, 1) := by decide +kernel
theorem fl_21 : fe 329 21 = some (21, .iconst 6, 2) := by decide +kernel
theorem fl_23 : fe 329 23 = some (23, .isub, 1) := by decide +kernel
theorem fl_24 : fe 329 24 = some (24, .if_icmp .gt 2205, 3) := by decide +kernel
theorem fl_27 : fe 329 27 = some (27, .aload 0, 1) := by decide +kernel
theorem fl_28 : fe 329 28 = some (28, .iload 3, 1) := by decide +kernel
theorem fl_29 : fe 329 29 = some (29, .iaload, 1) := by decide +kernel
theorem fl_30 : fe 329 30 = some (30, .iconst 63, 2) := by decide +kernel
theorem fl_32 : fe 329 32 = some (32, .iand, 1) := by decide +kernel
theorem fl_33 : fe 329 33 = some (33, .tableswitch 2199 0 62 #[300, 363, 386, 399, 422, 455, 488, 521, 534, 567, 590, 623, 646, 679, 712, 735, 768, 811, 824, 857, 890, 923, 956, 979, 1002, 1045, 1078, 1101, 1134, 1157, 1180, 1203, 1226, 1249, 1282, 1305, 1328, 1351, 1364, 1387, 1410, 1433, 1456, 1469, 1482, 1525, 1548, 1581, 1614, 1637, 1660, 1703, 1756, 1799, 1822, 1865, 1928, 1951, 1974, 1997, 2020, 2063, 2136], 267) := by decide +kernel
theorem fl_300 : fe 329 300 = some (300, .aload 1, 1) := by decide +kernel
theorem fl_301 : fe 329 301 = some (301, .aload 0, 1) := by decide +kernel
theorem fl_302 : fe 329 302 = some (302, .iload 3, 1) := by decide +kernel
theorem fl_303 : fe 329 303 = some (303, .iconst 1, 1) := by decide +kernel
theorem fl_304 : fe 329 304 = some (304, .iadd, 1) := by decide +kernel
theorem fl_305 : fe 329 305 = some (305, .iaload, 1) := by decide +kernel
theorem fl_306 : fe 329 306 = some (306, .aload 0, 1) := by decide +kernel
theorem fl_307 : fe 329 307 = some (307, .iload 3, 1) := by decide +kernel
theorem fl_308 : fe 329 308 = some (308, .iconst 2, 1) := by decide +kernel
theorem fl_309 : fe 329 309 = some (309, .iadd, 1) := by decide +kernel
theorem fl_310 : fe 329 310 = some (310, .iaload, 1) := by decide +kernel
theorem fl_311 : fe 329 311 = some (311, .aload 0, 1) := by decide +kernel
theorem fl_312 : fe 329 312 = some (312, .iload 3, 1) := by decide +kernel
theorem fl_313 : fe 329 313 = some (313, .iconst 3, 1) := by decide +kernel
theorem fl_314 : fe 329 314 = some (314, .iadd, 1) := by decide +kernel
theorem fl_315 : fe 329 315 = some (315, .iaload, 1) := by decide +kernel
theorem fl_316 : fe 329 316 = some (316, .aload 0, 1) := by decide +kernel
theorem fl_317 : fe 329 317 = some (317, .iload 3, 1) := by decide +kernel
theorem fl_318 : fe 329 318 = some (318, .iconst 4, 1) := by decide +kernel
theorem fl_319 : fe 329 319 = some (319, .iadd, 1) := by decide +kernel
theorem fl_320 : fe 329 320 = some (320, .iaload, 1) := by decide +kernel
theorem fl_321 : fe 329 321 = some (321, .aload 0, 1) := by decide +kernel
theorem fl_322 : fe 329 322 = some (322, .iload 3, 1) := by decide +kernel
theorem fl_323 : fe 329 323 = some (323, .iconst 5, 1) := by decide +kernel
theorem fl_324 : fe 329 324 = some (324, .iadd, 1) := by decide +kernel
theorem fl_325 : fe 329 325 = some (325, .iaload, 1) := by decide +kernel
theorem fl_326 : fe 329 326 = some (326, .invokevirtual 13, 3) := by decide +kernel
theorem fl_329 : fe 329 329 = some (329, .aload 2, 1) := by decide +kernel
theorem fl_330 : fe 329 330 = some (330, .aload 0, 1) := by decide +kernel
theorem fl_331 : fe 329 331 = some (331, .iload 3, 1) := by decide +kernel
theorem fl_332 : fe 329 332 = some (332, .iconst 1, 1) := by decide +kernel
theorem fl_333 : fe 329 333 = some (333, .iadd, 1) := by decide +kernel
theorem fl_334 : fe 329 334 = some (334, .iaload, 1) := by decide +kernel
theorem fl_335 : fe 329 335 = some (335, .aload 0, 1) := by decide +kernel
theorem fl_336 : fe 329 336 = some (336, .iload 3, 1) := by decide +kernel
theorem fl_337 : fe 329 337 = some (337, .iconst 2, 1) := by decide +kernel
theorem fl_338 : fe 329 338 = some (338, .iadd, 1) := by decide +kernel
theorem fl_339 : fe 329 339 = some (339, .iaload, 1) := by decide +kernel
theorem fl_340 : fe 329 340 = some (340, .aload 0, 1) := by decide +kernel
theorem fl_341 : fe 329 341 = some (341, .iload 3, 1) := by decide +kernel
theorem fl_342 : fe 329 342 = some (342, .iconst 3, 1) := by decide +kernel
theorem fl_343 : fe 329 343 = some (343, .iadd, 1) := by decide +kernel
theorem fl_344 : fe 329 344 = some (344, .iaload, 1) := by decide +kernel
theorem fl_345 : fe 329 345 = some (345, .aload 0, 1) := by decide +kernel
theorem fl_346 : fe 329 346 = some (346, .iload 3, 1) := by decide +kernel
theorem fl_347 : fe 329 347 = some (347, .iconst 4, 1) := by decide +kernel
theorem fl_348 : fe 329 348 = some (348, .iadd, 1) := by decide +kernel
theorem fl_349 : fe 329 349 = some (349, .iaload, 1) := by decide +kernel
theorem fl_350 : fe 329 350 = some (350, .aload 0, 1) := by decide +kernel
theorem fl_351 : fe 329 351 = some (351, .iload 3, 1) := by decide +kernel
theorem fl_352 : fe 329 352 = some (352, .iconst 5, 1) := by decide +kernel
theorem fl_353 : fe 329 353 = some (353, .iadd, 1) := by decide +kernel
theorem fl_354 : fe 329 354 = some (354, .iaload, 1) := by decide +kernel
theorem fl_355 : fe 329 355 = some (355, .invokevirtual 206, 3) := by decide +kernel
theorem fl_358 : fe 329 358 = some (358, .if_icmp .eq 2199, 3) := by decide +kernel
theorem fl_361 : fe 329 361 = some (361, .iconst 0, 1) := by decide +kernel
theorem fl_362 : fe 329 362 = some (362, .ireturn, 1) := by decide +kernel
theorem fl_363 : fe 329 363 = some (363, .aload 1, 1) := by decide +kernel
theorem fl_364 : fe 329 364 = some (364, .aload 0, 1) := by decide +kernel
theorem fl_365 : fe 329 365 = some (365, .iload 3, 1) := by decide +kernel
theorem fl_366 : fe 329 366 = some (366, .iconst 1, 1) := by decide +kernel
theorem fl_367 : fe 329 367 = some (367, .iadd, 1) := by decide +kernel
theorem fl_368 : fe 329 368 = some (368, .iaload, 1) := by decide +kernel
theorem fl_369 : fe 329 369 = some (369, .invokevirtual 15, 3) := by decide +kernel
theorem fl_372 : fe 329 372 = some (372, .aload 2, 1) := by decide +kernel
theorem fl_373 : fe 329 373 = some (373, .aload 0, 1) := by decide +kernel
theorem fl_374 : fe 329 374 = some (374, .iload 3, 1) := by decide +kernel
theorem fl_375 : fe 329 375 = some (375, .iconst 1, 1) := by decide +kernel
theorem fl_376 : fe 329 376 = some (376, .iadd, 1) := by decide +kernel
theorem fl_377 : fe 329 377 = some (377, .iaload, 1) := by decide +kernel
theorem fl_378 : fe 329 378 = some (378, .invokevirtual 208, 3) := by decide +kernel
theorem fl_381 : fe 329 381 = some (381, .if_icmp .eq 2199, 3) := by decide +kernel
theorem fl_384 : fe 329 384 = some (384, .iconst 0, 1) := by decide +kernel
theorem fl_385 : fe 329 385 = some (385, .ireturn, 1) := by decide +kernel
theorem fl_386 : fe 329 386 = some (386, .aload 1, 1) := by decide +kernel
theorem fl_387 : fe 329 387 = some (387, .invokevirtual 16, 3) := by decide +kernel
theorem fl_390 : fe 329 390 = some (390, .aload 2, 1) := by decide +kernel
theorem fl_391 : fe 329 391 = some (391, .invokevirtual 210, 3) := by decide +kernel
theorem fl_394 : fe 329 394 = some (394, .if_icmp .eq 2199, 3) := by decide +kernel
theorem fl_397 : fe 329 397 = some (397, .iconst 0, 1) := by decide +kernel
theorem fl_398 : fe 329 398 = some (398, .ireturn, 1) := by decide +kernel
theorem fl_399 : fe 329 399 = some (399, .aload 1, 1) := by decide +kernel
theorem fl_400 : fe 329 400 = some (400, .aload 0, 1) := by decide +kernel
theorem fl_401 : fe 329 401 = some (401, .iload 3, 1) := by decide +kernel
theorem fl_402 : fe 329 402 = some (402, .iconst 1, 1) := by decide +kernel
theorem fl_403 : fe 329 403 = some (403, .iadd, 1) := by decide +kernel
theorem fl_404 : fe 329 404 = some (404, .iaload, 1) := by decide +kernel
theorem fl_405 : fe 329 405 = some (405, .invokevirtual 60, 3) := by decide +kernel
theorem fl_408 : fe 329 408 = some (408, .aload 2, 1) := by decide +kernel
theorem fl_409 : fe 329 409 = some (409, .aload 0, 1) := by decide +kernel
theorem fl_410 : fe 329 410 = some (410, .iload 3, 1) := by decide +kernel
theorem fl_411 : fe 329 411 = some (411, .iconst 1, 1) := by decide +kernel
theorem fl_412 : fe 329 412 = some (412, .iadd, 1) := by decide +kernel
theorem fl_413 : fe 329 413 = some (413, .iaload, 1) := by decide +kernel
theorem fl_414 : fe 329 414 = some (414, .invokevirtual 209, 3) := by decide +kernel
theorem fl_417 : fe 329 417 = some (417, .if_icmp .eq 2199, 3) := by decide +kernel
theorem fl_420 : fe 329 420 = some (420, .iconst 0, 1) := by decide +kernel
theorem fl_421 : fe 329 421 = some (421, .ireturn, 1) := by decide +kernel
theorem fl_422 : fe 329 422 = some (422, .aload 1, 1) := by decide +kernel
theorem fl_423 : fe 329 423 = some (423, .aload 0, 1) := by decide +kernel
theorem fl_424 : fe 329 424 = some (424, .iload 3, 1) := by decide +kernel
theorem fl_425 : fe 329 425 = some (425, .iconst 1, 1) := by decide +kernel
theorem fl_426 : fe 329 426 = some (426, .iadd, 1) := by decide +kernel
theorem fl_427 : fe 329 427 = some (427, .iaload, 1) := by decide +kernel
theorem fl_428 : fe 329 428 = some (428, .aload 0, 1) := by decide +kernel
theorem fl_429 : fe 329 429 = some (429, .iload 3, 1) := by decide +kernel
theorem fl_430 : fe 329 430 = some (430, .iconst 2, 1) := by decide +kernel
theorem fl_431 : fe 329 431 = some (431, .iadd, 1) := by decide +kernel
theorem fl_432 : fe 329 432 = some (432, .iaload, 1) := by decide +kernel
theorem fl_433 : fe 329 433 = some (433, .invokevirtual 61, 3) := by decide +kernel
theorem fl_436 : fe 329 436 = some (436, .aload 2, 1) := by decide +kernel
theorem fl_437 : fe 329 437 = some (437, .aload 0, 1) := by decide +kernel
theorem fl_438 : fe 329 438 = some (438, .iload 3, 1) := by decide +kernel
theorem fl_439 : fe 329 439 = some (439, .iconst 1, 1) := by decide +kernel
theorem fl_440 : fe 329 440 = some (440, .iadd, 1) := by decide +kernel
theorem fl_441 : fe 329 441 = some (441, .iaload, 1) := by decide +kernel
theorem fl_442 : fe 329 442 = some (442, .aload 0, 1) := by decide +kernel
theorem fl_443 : fe 329 443 = some (443, .iload 3, 1) := by decide +kernel
theorem fl_444 : fe 329 444 = some (444, .iconst 2, 1) := by decide +kernel
theorem fl_445 : fe 329 445 = some (445, .iadd, 1) := by decide +kernel
theorem fl_446 : fe 329 446 = some (446, .iaload, 1) := by decide +kernel
theorem fl_447 : fe 329 447 = some (447, .invokevirtual 235, 3) := by decide +kernel
theorem fl_450 : fe 329 450 = some (450, .if_icmp .eq 2199, 3) := by decide +kernel
theorem fl_453 : fe 329 453 = some (453, .iconst 0, 1) := by decide +kernel
theorem fl_454 : fe 329 454 = some (454, .ireturn, 1) := by decide +kernel
theorem fl_455 : fe 329 455 = some (455, .aload 1, 1) := by decide +kernel
theorem fl_456 : fe 329 456 = some (456, .aload 0, 1) := by decide +kernel
theorem fl_457 : fe 329 457 = some (457, .iload 3, 1) := by decide +kernel
theorem fl_458 : fe 329 458 = some (458, .iconst 1, 1) := by decide +kernel
theorem fl_459 : fe 329 459 = some (459, .iadd, 1) := by decide +kernel
theorem fl_460 : fe 329 460 = some (460, .iaload, 1) := by decide +kernel
theorem fl_461 : fe 329 461 = some (461, .aload 0, 1) := by decide +kernel
theorem fl_462 : fe 329 462 = some (462, .iload 3, 1) := by decide +kernel
theorem fl_463 : fe 329 463 = some (463, .iconst 2, 1) := by decide +kernel
theorem fl_464 : fe 329 464 = some (464, .iadd, 1) := by decide +kernel
theorem fl_465 : fe 329 465 = some (465, .iaload, 1) := by decide +kernel
theorem fl_466 : fe 329 466 = some (466, .invokevirtual 64, 3) := by decide +kernel
theorem fl_469 : fe 329 469 = some (469, .aload 2, 1) := by decide +kernel
theorem fl_470 : fe 329 470 = some (470, .aload 0, 1) := by decide +kernel
theorem fl_471 : fe 329 471 = some (471, .iload 3, 1) := by decide +kernel
theorem fl_472 : fe 329 472 = some (472, .iconst 1, 1) := by decide +kernel
theorem fl_473 : fe 329 473 = some (473, .iadd, 1) := by decide +kernel
theorem fl_474 : fe 329 474 = some (474, .iaload, 1) := by decide +kernel
theorem fl_475 : fe 329 475 = some (475, .aload 0, 1) := by decide +kernel
theorem fl_476 : fe 329 476 = some (476, .iload 3, 1) := by decide +kernel
theorem fl_477 : fe 329 477 = some (477, .iconst 2, 1) := by decide +kernel
theorem fl_478 : fe 329 478 = some (478, .iadd, 1) := by decide +kernel
theorem fl_479 : fe 329 479 = some (479, .iaload, 1) := by decide +kernel
theorem fl_480 : fe 329 480 = some (480, .invokevirtual 237, 3) := by decide +kernel
theorem fl_483 : fe 329 483 = some (483, .if_icmp .eq 2199, 3) := by decide +kernel
theorem fl_486 : fe 329 486 = some (486, .iconst 0, 1) := by decide +kernel
theorem fl_487 : fe 329 487 = some (487, .ireturn, 1) := by decide +kernel
theorem fl_488 : fe 329 488 = some (488, .aload 1, 1) := by decide +kernel
theorem fl_489 : fe 329 489 = some (489, .aload 0, 1) := by decide +kernel
theorem fl_490 : fe 329 490 = some (490, .iload 3, 1) := by decide +kernel
theorem fl_491 : fe 329 491 = some (491, .iconst 1, 1) := by decide +kernel
theorem fl_492 : fe 329 492 = some (492, .iadd, 1) := by decide +kernel
theorem fl_493 : fe 329 493 = some (493, .iaload, 1) := by decide +kernel
theorem fl_494 : fe 329 494 = some (494, .aload 0, 1) := by decide +kernel
theorem fl_495 : fe 329 495 = some (495, .iload 3, 1) := by decide +kernel
theorem fl_496 : fe 329 496 = some (496, .iconst 2, 1) := by decide +kernel
theorem fl_497 : fe 329 497 = some (497, .iadd, 1) := by decide +kernel
theorem fl_498 : fe 329 498 = some (498, .iaload, 1) := by decide +kernel
theorem fl_499 : fe 329 499 = some (499, .invokevirtual 66, 3) := by decide +kernel
theorem fl_502 : fe 329 502 = some (502, .aload 2, 1) := by decide +kernel
theorem fl_503 : fe 329 503 = some (503, .aload 0, 1) := by decide +kernel
theorem fl_504 : fe 329 504 = some (504, .iload 3, 1) := by decide +kernel
theorem fl_505 : fe 329 505 = some (505, .iconst 1, 1) := by decide +kernel
theorem fl_506 : fe 329 506 = some (506, .iadd, 1) := by decide +kernel
theorem fl_507 : fe 329 507 = some (507, .iaload, 1) := by decide +kernel
theorem fl_508 : fe 329 508 = some (508, .aload 0, 1) := by decide +kernel
theorem fl_509 : fe 329 509 = some (509, .iload 3, 1) := by decide +kernel
theorem fl_510 : fe 329 510 = some (510, .iconst 2, 1) := by decide +kernel
theorem fl_511 : fe 329 511 = some (511, .iadd, 1) := by decide +kernel
theorem fl_512 : fe 329 512 = some (512, .iaload, 1) := by decide +kernel
theorem fl_513 : fe 329 513 = some (513, .invokevirtual 239, 3) := by decide +kernel
theorem fl_516 : fe 329 516 = some (516, .if_icmp .eq 2199, 3) := by decide +kernel
theorem fl_519 : fe 329 519 = some (519, .iconst 0, 1) := by decide +kernel
theorem fl_520 : fe 329 520 = some (520, .ireturn, 1) := by decide +kernel
theorem fl_521 : fe 329 521 = some (521, .aload 1, 1) := by decide +kernel
theorem fl_522 : fe 329 522 = some (522, .invokevirtual 70, 3) := by decide +kernel
theorem fl_525 : fe 329 525 = some (525, .aload 2, 1) := by decide +kernel
theorem fl_526 : fe 329 526 = some (526, .invokevirtual 244, 3) := by decide +kernel
theorem fl_529 : fe 329 529 = some (529, .if_icmp .eq 2199, 3) := by decide +kernel
theorem fl_532 : fe 329 532 = some (532, .iconst 0, 1) := by decide +kernel
theorem fl_533 : fe 329 533 = some (533, .ireturn, 1) := by decide +kernel
theorem fl_534 : fe 329 534 = some (534, .aload 1, 1) := by decide +kernel
theorem fl_535 : fe 329 535 = some (535, .aload 0, 1) := by decide +kernel
theorem fl_536 : fe 329 536 = some (536, .iload 3, 1) := by decide +kernel
theorem fl_537 : fe 329 537 = some (537, .iconst 1, 1) := by decide +kernel
theorem fl_538 : fe 329 538 = some (538, .iadd, 1) := by decide +kernel
theorem fl_539 : fe 329 539 = some (539, .iaload, 1) := by decide +kernel
theorem fl_540 : fe 329 540 = some (540, .aload 0, 1) := by decide +kernel
theorem fl_541 : fe 329 541 = some (541, .iload 3, 1) := by decide +kernel
theorem fl_542 : fe 329 542 = some (542, .iconst 2, 1) := by decide +kernel
theorem fl_543 : fe 329 543 = some (543, .iadd, 1) := by decide +kernel
theorem fl_544 : fe 329 544 = some (544, .iaload, 1) := by decide +kernel
theorem fl_545 : fe 329 545 = some (545, .invokevirtual 86, 3) := by decide +kernel
theorem fl_548 : fe 329 548 = some (548, .aload 2, 1) := by decide +kernel
theorem fl_549 : fe 329 549 = some (549, .aload 0, 1) := by decide +kernel
theorem fl_550 : fe 329 550 = some (550, .iload 3, 1) := by decide +kernel
theorem fl_551 : fe 329 551 = some (551, .iconst 1, 1) := by decide +kernel
theorem fl_552 : fe 329 552 = some (552, .iadd, 1) := by decide +kernel
theorem fl_553 : fe 329 553 = some (553, .iaload, 1) := by decide +kernel
theorem fl_554 : fe 329 554 = some (554, .aload 0, 1) := by decide +kernel
theorem fl_555 : fe 329 555 = some (555, .iload 3, 1) := by decide +kernel
theorem fl_556 : fe 329 556 = some (556, .iconst 2, 1) := by decide +kernel
theorem fl_557 : fe 329 557 = some (557, .iadd, 1) := by decide +kernel
theorem fl_558 : fe 329 558 = some (558, .iaload, 1) := by decide +kernel
theorem fl_559 : fe 329 559 = some (559, .invokevirtual 253, 3) := by decide +kernel
theorem fl_562 : fe 329 562 = some (562, .if_icmp .eq 2199, 3) := by decide +kernel
theorem fl_565 : fe 329 565 = some (565, .iconst 0, 1) := by decide +kernel
theorem fl_566 : fe 329 566 = some (566, .ireturn, 1) := by decide +kernel
theorem fl_567 : fe 329 567 = some (567, .aload 1, 1) := by decide +kernel
theorem fl_568 : fe 329 568 = some (568, .aload 0, 1) := by decide +kernel
theorem fl_569 : fe 329 569 = some (569, .iload 3, 1) := by decide +kernel
theorem fl_570 : fe 329 570 = some (570, .iconst 1, 1) := by decide +kernel
theorem fl_571 : fe 329 571 = some (571, .iadd, 1) := by decide +kernel
theorem fl_572 : fe 329 572 = some (572, .iaload, 1) := by decide +kernel
theorem fl_573 : fe 329 573 = some (573, .invokevirtual 88, 3) := by decide +kernel
theorem fl_576 : fe 329 576 = some (576, .aload 2, 1) := by decide +kernel
theorem fl_577 : fe 329 577 = some (577, .aload 0, 1) := by decide +kernel
theorem fl_578 : fe 329 578 = some (578, .iload 3, 1) := by decide +kernel
theorem fl_579 : fe 329 579 = some (579, .iconst 1, 1) := by decide +kernel
theorem fl_580 : fe 329 580 = some (580, .iadd, 1) := by decide +kernel
theorem fl_581 : fe 329 581 = some (581, .iaload, 1) := by decide +kernel
theorem fl_582 : fe 329 582 = some (582, .invokevirtual 255, 3) := by decide +kernel
theorem fl_585 : fe 329 585 = some (585, .if_icmp .eq 2199, 3) := by decide +kernel
theorem fl_588 : fe 329 588 = some (588, .iconst 0, 1) := by decide +kernel
theorem fl_589 : fe 329 589 = some (589, .ireturn, 1) := by decide +kernel
theorem fl_590 : fe 329 590 = some (590, .aload 1, 1) := by decide +kernel
theorem fl_591 : fe 329 591 = some (591, .aload 0, 1) := by decide +kernel
theorem fl_592 : fe 329 592 = some (592, .iload 3, 1) := by decide +kernel
theorem fl_593 : fe 329 593 = some (593, .iconst 1, 1) := by decide +kernel
theorem fl_594 : fe 329 594 = some (594, .iadd, 1) := by decide +kernel
theorem fl_595 : fe 329 595 = some (595, .iaload, 1) := by decide +kernel
theorem fl_596 : fe 329 596 = some (596, .aload 0, 1) := by decide +kernel
theorem fl_597 : fe 329 597 = some (597, .iload 3, 1) := by decide +kernel
theorem fl_598 : fe 329 598 = some (598, .iconst 2, 1) := by decide +kernel
theorem fl_599 : fe 329 599 = some (599, .iadd, 1) := by decide +kernel
theorem fl_600 : fe 329 600 = some (600, .iaload, 1) := by decide +kernel
theorem fl_601 : fe 329 601 = some (601, .invokevirtual 89, 3) := by decide +kernel
theorem fl_604 : fe 329 604 = some (604, .aload 2, 1) := by decide +kernel
theorem fl_605 : fe 329 605 = some (605, .aload 0, 1) := by decide +kernel
theorem fl_606 : fe 329 606 = some (606, .iload 3, 1) := by decide +kernel
theorem fl_607 : fe 329 607 = some (607, .iconst 1, 1) := by decide +kernel
theorem fl_608 : fe 329 608 = some (608, .iadd, 1) := by decide +kernel
theorem fl_609 : fe 329 609 = some (609, .iaload, 1) := by decide +kernel
theorem fl_610 : fe 329 610 = some (610, .aload 0, 1) := by decide +kernel
theorem fl_611 : fe 329 611 = some (611, .iload 3, 1) := by decide +kernel
theorem fl_612 : fe 329 612 = some (612, .iconst 2, 1) := by decide +kernel
theorem fl_613 : fe 329 613 = some (613, .iadd, 1) := by decide +kernel
theorem fl_614 : fe 329 614 = some (614, .iaload, 1) := by decide +kernel
theorem fl_615 : fe 329 615 = some (615, .invokevirtual 256, 3) := by decide +kernel
theorem fl_618 : fe 329 618 = some (618, .if_icmp .eq 2199, 3) := by decide +kernel
theorem fl_621 : fe 329 621 = some (621, .iconst 0, 1) := by decide +kernel
theorem fl_622 : fe 329 622 = some (622, .ireturn, 1) := by decide +kernel
theorem fl_623 : fe 329 623 = some (623, .aload 1, 1) := by decide +kernel
theorem fl_624 : fe 329 624 = some (624, .aload 0, 1) := by decide +kernel
theorem fl_625 : fe 329 625 = some (625, .iload 3, 1) := by decide +kernel
theorem fl_626 : fe 329 626 = some (626, .iconst 1, 1) := by decide +kernel
theorem fl_627 : fe 329 627 = some (627, .iadd, 1) := by decide +kernel
theorem fl_628 : fe 329 628 = some (628, .iaload, 1) := by decide +kernel
theorem fl_629 : fe 329 629 = some (629, .invokevirtual 91, 3) := by decide +kernel
theorem fl_632 : fe 329 632 = some (632, .aload 2, 1) := by decide +kernel
theorem fl_633 : fe 329 633 = some (633, .aload 0, 1) := by decide +kernel
theorem fl_634 : fe 329 634 = some (634, .iload 3, 1) := by decide +kernel
theorem fl_635 : fe 329 635 = some (635, .iconst 1, 1) := by decide +kernel
theorem fl_636 : fe 329 636 = some (636, .iadd, 1) := by decide +kernel
theorem fl_637 : fe 329 637 = some (637, .iaload, 1) := by decide +kernel
theorem fl_638 : fe 329 638 = some (638, .invokevirtual 258, 3) := by decide +kernel
theorem fl_641 : fe 329 641 = some (641, .if_icmp .eq 2199, 3) := by decide +kernel
theorem fl_644 : fe 329 644 = some (644, .iconst 0, 1) := by decide +kernel
theorem fl_645 : fe 329 645 = some (645, .ireturn, 1) := by decide +kernel
theorem fl_646 : fe 329 646 = some (646, .aload 1, 1) := by decide +kernel
theorem fl_647 : fe 329 647 = some (647, .aload 0, 1) := by decide +kernel
theorem fl_648 : fe 329 648 = some (648, .iload 3, 1) := by decide +kernel
theorem fl_649 : fe 329 649 = some (649, .iconst 1, 1) := by decide +kernel
theorem fl_650 : fe 329 650 = some (650, .iadd, 1) := by decide +kernel
theorem fl_651 : fe 329 651 = some (651, .iaload, 1) := by decide +kernel
theorem fl_652 : fe 329 652 = some (652, .aload 0, 1) := by decide +kernel
theorem fl_653 : fe 329 653 = some (653, .iload 3, 1) := by decide +kernel
theorem fl_654 : fe 329 654 = some (654, .iconst 2, 1) := by decide +kernel
theorem fl_655 : fe 329 655 = some (655, .iadd, 1) := by decide +kernel
theorem fl_656 : fe 329 656 = some (656, .iaload, 1) := by decide +kernel
theorem fl_657 : fe 329 657 = some (657, .invokevirtual 92, 3) := by decide +kernel
theorem fl_660 : fe 329 660 = some (660, .aload 2, 1) := by decide +kernel
theorem fl_661 : fe 329 661 = some (661, .aload 0, 1) := by decide +kernel
theorem fl_662 : fe 329 662 = some (662, .iload 3, 1) := by decide +kernel
theorem fl_663 : fe 329 663 = some (663, .iconst 1, 1) := by decide +kernel
theorem fl_664 : fe 329 664 = some (664, .iadd, 1) := by decide +kernel
theorem fl_665 : fe 329 665 = some (665, .iaload, 1) := by decide +kernel
theorem fl_666 : fe 329 666 = some (666, .aload 0, 1) := by decide +kernel
theorem fl_667 : fe 329 667 = some (667, .iload 3, 1) := by decide +kernel
theorem fl_668 : fe 329 668 = some (668, .iconst 2, 1) := by decide +kernel
theorem fl_669 : fe 329 669 = some (669, .iadd, 1) := by decide +kernel
theorem fl_670 : fe 329 670 = some (670, .iaload, 1) := by decide +kernel
theorem fl_671 : fe 329 671 = some (671, .invokevirtual 259, 3) := by decide +kernel
theorem fl_674 : fe 329 674 = some (674, .if_icmp .eq 2199, 3) := by decide +kernel
theorem fl_677 : fe 329 677 = some (677, .iconst 0, 1) := by decide +kernel
theorem fl_678 : fe 329 678 = some (678, .ireturn, 1) := by decide +kernel
theorem fl_679 : fe 329 679 = some (679, .aload 1, 1) := by decide +kernel
theorem fl_680 : fe 329 680 = some (680, .aload 0, 1) := by decide +kernel
theorem fl_681 : fe 329 681 = some (681, .iload 3, 1) := by decide +kernel
theorem fl_682 : fe 329 682 = some (682, .iconst 1, 1) := by decide +kernel
theorem fl_683 : fe 329 683 = some (683, .iadd, 1) := by decide +kernel
theorem fl_684 : fe 329 684 = some (684, .iaload, 1) := by decide +kernel
theorem fl_685 : fe 329 685 = some (685, .aload 0, 1) := by decide +kernel
theorem fl_686 : fe 329 686 = some (686, .iload 3, 1) := by decide +kernel
theorem fl_687 : fe 329 687 = some (687, .iconst 2, 1) := by decide +kernel
theorem fl_688 : fe 329 688 = some (688, .iadd, 1) := by decide +kernel
theorem fl_689 : fe 329 689 = some (689, .iaload, 1) := by decide +kernel
theorem fl_690 : fe 329 690 = some (690, .invokevirtual 94, 3) := by decide +kernel
theorem fl_693 : fe 329 693 = some (693, .aload 2, 1) := by decide +kernel
theorem fl_694 : fe 329 694 = some (694, .aload 0, 1) := by decide +kernel
theorem fl_695 : fe 329 695 = some (695, .iload 3, 1) := by decide +kernel
theorem fl_696 : fe 329 696 = some (696, .iconst 1, 1) := by decide +kernel
theorem fl_697 : fe 329 697 = some (697, .iadd, 1) := by decide +kernel
theorem fl_698 : fe 329 698 = some (698, .iaload, 1) := by decide +kernel
theorem fl_699 : fe 329 699 = some (699, .aload 0, 1) := by decide +kernel
theorem fl_700 : fe 329 700 = some (700, .iload 3, 1) := by decide +kernel
theorem fl_701 : fe 329 701 = some (701, .iconst 2, 1) := by decide +kernel
theorem fl_702 : fe 329 702 = some (702, .iadd, 1) := by decide +kernel
theorem fl_703 : fe 329 703 = some (703, .iaload, 1) := by decide +kernel
theorem fl_704 : fe 329 704 = some (704, .invokevirtual 261, 3) := by decide +kernel
theorem fl_707 : fe 329 707 = some (707, .if_icmp .eq 2199, 3) := by decide +kernel
theorem fl_710 : fe 329 710 = some (710, .iconst 0, 1) := by decide +kernel
theorem fl_711 : fe 329 711 = some (711, .ireturn, 1) := by decide +kernel
theorem fl_712 : fe 329 712 = some (712, .aload 1, 1) := by decide +kernel
theorem fl_713 : fe 329 713 = some (713, .aload 0, 1) := by decide +kernel
theorem fl_714 : fe 329 714 = some (714, .iload 3, 1) := by decide +kernel
theorem fl_715 : fe 329 715 = some (715, .iconst 1, 1) := by decide +kernel
theorem fl_716 : fe 329 716 = some (716, .iadd, 1) := by decide +kernel
theorem fl_717 : fe 329 717 = some (717, .iaload, 1) := by decide +kernel
theorem fl_718 : fe 329 718 = some (718, .invokevirtual 95, 3) := by decide +kernel
theorem fl_721 : fe 329 721 = some (721, .aload 2, 1) := by decide +kernel
theorem fl_722 : fe 329 722 = some (722, .aload 0, 1) := by decide +kernel
theorem fl_723 : fe 329 723 = some (723, .iload 3, 1) := by decide +kernel
theorem fl_724 : fe 329 724 = some (724, .iconst 1, 1) := by decide +kernel
theorem fl_725 : fe 329 725 = some (725, .iadd, 1) := by decide +kernel
theorem fl_726 : fe 329 726 = some (726, .iaload, 1) := by decide +kernel
theorem fl_727 : fe 329 727 = some (727, .invokevirtual 262, 3) := by decide +kernel
theorem fl_730 : fe 329 730 = some (730, .if_icmp .eq 2199, 3) := by decide +kernel
theorem fl_733 : fe 329 733 = some (733, .iconst 0, 1) := by decide +kernel
theorem fl_734 : fe 329 734 = some (734, .ireturn, 1) := by decide +kernel
theorem fl_735 : fe 329 735 = some (735, .aload 1, 1) := by decide +kernel
theorem fl_736 : fe 329 736 = some (736, .aload 0, 1) := by decide +kernel
theorem fl_737 : fe 329 737 = some (737, .iload 3, 1) := by decide +kernel
theorem fl_738 : fe 329 738 = some (738, .iconst 1, 1) := by decide +kernel
theorem fl_739 : fe 329 739 = some (739, .iadd, 1) := by decide +kernel
theorem fl_740 : fe 329 740 = some (740, .iaload, 1) := by decide +kernel
theorem fl_741 : fe 329 741 = some (741, .aload 0, 1) := by decide +kernel
theorem fl_742 : fe 329 742 = some (742, .iload 3, 1) := by decide +kernel
theorem fl_743 : fe 329 743 = some (743, .iconst 2, 1) := by decide +kernel
theorem fl_744 : fe 329 744 = some (744, .iadd, 1) := by decide +kernel
theorem fl_745 : fe 329 745 = some (745, .iaload, 1) := by decide +kernel
theorem fl_746 : fe 329 746 = some (746, .invokevirtual 97, 3) := by decide +kernel
theorem fl_749 : fe 329 749 = some (749, .aload 2, 1) := by decide +kernel
theorem fl_750 : fe 329 750 = some (750, .aload 0, 1) := by decide +kernel
theorem fl_751 : fe 329 751 = some (751, .iload 3, 1) := by decide +kernel
theorem fl_752 : fe 329 752 = some (752, .iconst 1, 1) := by decide +kernel
theorem fl_753 : fe 329 753 = some (753, .iadd, 1) := by decide +kernel
theorem fl_754 : fe 329 754 = some (754, .iaload, 1) := by decide +kernel
theorem fl_755 : fe 329 755 = some (755, .aload 0, 1) := by decide +kernel
theorem fl_756 : fe 329 756 = some (756, .iload 3, 1) := by decide +kernel
theorem fl_757 : fe 329 757 = some (757, .iconst 2, 1) := by decide +kernel
theorem fl_758 : fe 329 758 = some (758, .iadd, 1) := by decide +kernel
theorem fl_759 : fe 329 759 = some (759, .iaload, 1) := by decide +kernel
theorem fl_760 : fe 329 760 = some (760, .invokevirtual 263, 3) := by decide +kernel
theorem fl_763 : fe 329 763 = some (763, .if_icmp .eq 2199, 3) := by decide +kernel
theorem fl_766 : fe 329 766 = some (766, .iconst 0, 1) := by decide +kernel
theorem fl_767 : fe 329 767 = some (767, .ireturn, 1) := by decide +kernel
theorem fl_768 : fe 329 768 = some (768, .aload 1, 1) := by decide +kernel
theorem fl_769 : fe 329 769 = some (769, .aload 0, 1) := by decide +kernel
theorem fl_770 : fe 329 770 = some (770, .iload 3, 1) := by decide +kernel
theorem fl_771 : fe 329 771 = some (771, .iconst 1, 1) := by decide +kernel
theorem fl_772 : fe 329 772 = some (772, .iadd, 1) := by decide +kernel
theorem fl_773 : fe 329 773 = some (773, .iaload, 1) := by decide +kernel
theorem fl_774 : fe 329 774 = some (774, .aload 0, 1) := by decide +kernel
theorem fl_775 : fe 329 775 = some (775, .iload 3, 1) := by decide +kernel
theorem fl_776 : fe 329 776 = some (776, .iconst 2, 1) := by decide +kernel
theorem fl_777 : fe 329 777 = some (777, .iadd, 1) := by decide +kernel
theorem fl_778 : fe 329 778 = some (778, .iaload, 1) := by decide +kernel
theorem fl_779 : fe 329 779 = some (779, .aload 0, 1) := by decide +kernel
theorem fl_780 : fe 329 780 = some (780, .iload 3, 1) := by decide +kernel
theorem fl_781 : fe 329 781 = some (781, .iconst 3, 1) := by decide +kernel
theorem fl_782 : fe 329 782 = some (782, .iadd, 1) := by decide +kernel
theorem fl_783 : fe 329 783 = some (783, .iaload, 1) := by decide +kernel
theorem fl_784 : fe 329 784 = some (784, .invokevirtual 102, 3) := by decide +kernel
theorem fl_787 : fe 329 787 = some (787, .aload 2, 1) := by decide +kernel
theorem fl_788 : fe 329 788 = some (788, .aload 0, 1) := by decide +kernel
theorem fl_789 : fe 329 789 = some (789, .iload 3, 1) := by decide +kernel
theorem fl_790 : fe 329 790 = some (790, .iconst 1, 1) := by decide +kernel
theorem fl_791 : fe 329 791 = some (791, .iadd, 1) := by decide +kernel
theorem fl_792 : fe 329 792 = some (792, .iaload, 1) := by decide +kernel
theorem fl_793 : fe 329 793 = some (793, .aload 0, 1) := by decide +kernel
theorem fl_794 : fe 329 794 = some (794, .iload 3, 1) := by decide +kernel
theorem fl_795 : fe 329 795 = some (795, .iconst 2, 1) := by decide +kernel
theorem fl_796 : fe 329 796 = some (796, .iadd, 1) := by decide +kernel
theorem fl_797 : fe 329 797 = some (797, .iaload, 1) := by decide +kernel
theorem fl_798 : fe 329 798 = some (798, .aload 0, 1) := by decide +kernel
theorem fl_799 : fe 329 799 = some (799, .iload 3, 1) := by decide +kernel
theorem fl_800 : fe 329 800 = some (800, .iconst 3, 1) := by decide +kernel
theorem fl_801 : fe 329 801 = some (801, .iadd, 1) := by decide +kernel
theorem fl_802 : fe 329 802 = some (802, .iaload, 1) := by decide +kernel
theorem fl_803 : fe 329 803 = some (803, .invokevirtual 265, 3) := by decide +kernel
theorem fl_806 : fe 329 806 = some (806, .if_icmp .eq 2199, 3) := by decide +kernel
theorem fl_809 : fe 329 809 = some (809, .iconst 0, 1) := by decide +kernel
theorem fl_810 : fe 329 810 = some (810, .ireturn, 1) := by decide +kernel
theorem fl_811 : fe 329 811 = some (811, .aload 1, 1) := by decide +kernel
theorem fl_812 : fe 329 812 = some (812, .invokevirtual 104, 3) := by decide +kernel
theorem fl_815 : fe 329 815 = some (815, .aload 2, 1) := by decide +kernel
theorem fl_816 : fe 329 816 = some (816, .invokevirtual 266, 3) := by decide +kernel
theorem fl_819 : fe 329 819 = some (819, .if_icmp .eq 2199, 3) := by decide +kernel
theorem fl_822 : fe 329 822 = some (822, .iconst 0, 1) := by decide +kernel
theorem fl_823 : fe 329 823 = some (823, .ireturn, 1) := by decide +kernel
theorem fl_824 : fe 329 824 = some (824, .aload 1, 1) := by decide +kernel
theorem fl_825 : fe 329 825 = some (825, .aload 0, 1) := by decide +kernel
theorem fl_826 : fe 329 826 = some (826, .iload 3, 1) := by decide +kernel
theorem fl_827 : fe 329 827 = some (827, .iconst 1, 1) := by decide +kernel
theorem fl_828 : fe 329 828 = some (828, .iadd, 1) := by decide +kernel
theorem fl_829 : fe 329 829 = some (829, .iaload, 1) := by decide +kernel
theorem fl_830 : fe 329 830 = some (830, .aload 0, 1) := by decide +kernel
theorem fl_831 : fe 329 831 = some (831, .iload 3, 1) := by decide +kernel
theorem fl_832 : fe 329 832 = some (832, .iconst 2, 1) := by decide +kernel
theorem fl_833 : fe 329 833 = some (833, .iadd, 1) := by decide +kernel
theorem fl_834 : fe 329 834 = some (834, .iaload, 1) := by decide +kernel
theorem fl_835 : fe 329 835 = some (835, .invokevirtual 106, 3) := by decide +kernel
theorem fl_838 : fe 329 838 = some (838, .aload 2, 1) := by decide +kernel
theorem fl_839 : fe 329 839 = some (839, .aload 0, 1) := by decide +kernel
theorem fl_840 : fe 329 840 = some (840, .iload 3, 1) := by decide +kernel
theorem fl_841 : fe 329 841 = some (841, .iconst 1, 1) := by decide +kernel
theorem fl_842 : fe 329 842 = some (842, .iadd, 1) := by decide +kernel
theorem fl_843 : fe 329 843 = some (843, .iaload, 1) := by decide +kernel
theorem fl_844 : fe 329 844 = some (844, .aload 0, 1) := by decide +kernel
theorem fl_845 : fe 329 845 = some (845, .iload 3, 1) := by decide +kernel
theorem fl_846 : fe 329 846 = some (846, .iconst 2, 1) := by decide +kernel
theorem fl_847 : fe 329 847 = some (847, .iadd, 1) := by decide +kernel
theorem fl_848 : fe 329 848 = some (848, .iaload, 1) := by decide +kernel
theorem fl_849 : fe 329 849 = some (849, .invokevirtual 267, 3) := by decide +kernel
theorem fl_852 : fe 329 852 = some (852, .if_icmp .eq 2199, 3) := by decide +kernel
theorem fl_855 : fe 329 855 = some (855, .iconst 0, 1) := by decide +kernel
theorem fl_856 : fe 329 856 = some (856, .ireturn, 1) := by decide +kernel
theorem fl_857 : fe 329 857 = some (857, .aload 1, 1) := by decide +kernel
theorem fl_858 : fe 329 858 = some (858, .aload 0, 1) := by decide +kernel
theorem fl_859 : fe 329 859 = some (859, .iload 3, 1) := by decide +kernel
theorem fl_860 : fe 329 860 = some (860, .iconst 1, 1) := by decide +kernel
theorem fl_861 : fe 329 861 = some (861, .iadd, 1) := by decide +kernel
theorem fl_862 : fe 329 862 = some (862, .iaload, 1) := by decide +kernel
theorem fl_863 : fe 329 863 = some (863, .aload 0, 1) := by decide +kernel
theorem fl_864 : fe 329 864 = some (864, .iload 3, 1) := by decide +kernel
theorem fl_865 : fe 329 865 = some (865, .iconst 2, 1) := by decide +kernel
theorem fl_866 : fe 329 866 = some (866, .iadd, 1) := by decide +kernel
theorem fl_867 : fe 329 867 = some (867, .iaload, 1) := by decide +kernel
theorem fl_868 : fe 329 868 = some (868, .invokevirtual 108, 3) := by decide +kernel
theorem fl_871 : fe 329 871 = some (871, .aload 2, 1) := by decide +kernel
theorem fl_872 : fe 329 872 = some (872, .aload 0, 1) := by decide +kernel
theorem fl_873 : fe 329 873 = some (873, .iload 3, 1) := by decide +kernel
theorem fl_874 : fe 329 874 = some (874, .iconst 1, 1) := by decide +kernel
theorem fl_875 : fe 329 875 = some (875, .iadd, 1) := by decide +kernel
theorem fl_876 : fe 329 876 = some (876, .iaload, 1) := by decide +kernel
theorem fl_877 : fe 329 877 = some (877, .aload 0, 1) := by decide +kernel
theorem fl_878 : fe 329 878 = some (878, .iload 3, 1) := by decide +kernel
theorem fl_879 : fe 329 879 = some (879, .iconst 2, 1) := by decide +kernel
theorem fl_880 : fe 329 880 = some (880, .iadd, 1) := by decide +kernel
theorem fl_881 : fe 329 881 = some (881, .iaload, 1) := by decide +kernel
theorem fl_882 : fe 329 882 = some (882, .invokevirtual 269, 3) := by decide +kernel
theorem fl_885 : fe 329 885 = some (885, .if_icmp .eq 2199, 3) := by decide +kernel
theorem fl_888 : fe 329 888 = some (888, .iconst 0, 1) := by decide +kernel
theorem fl_889 : fe 329 889 = some (889, .ireturn, 1) := by decide +kernel
theorem fl_890 : fe 329 890 = some (890, .aload 1, 1) := by decide +kernel
theorem fl_891 : fe 329 891 = some (891, .aload 0, 1) := by decide +kernel
theorem fl_892 : fe 329 892 = some (892, .iload 3, 1) := by decide +kernel
theorem fl_893 : fe 329 893 = some (893, .iconst 1, 1) := by decide +kernel
theorem fl_894 : fe 329 894 = some (894, .iadd, 1) := by decide +kernel
theorem fl_895 : fe 329 895 = some (895, .iaload, 1) := by decide +kernel
theorem fl_896 : fe 329 896 = some (896, .aload 0, 1) := by decide +kernel
theorem fl_897 : fe 329 897 = some (897, .iload 3, 1) := by decide +kernel
theorem fl_898 : fe 329 898 = some (898, .iconst 2, 1) := by decide +kernel
theorem fl_899 : fe 329 899 = some (899, .iadd, 1) := by decide +kernel
theorem fl_900 : fe 329 900 = some (900, .iaload, 1) := by decide +kernel
theorem fl_901 : fe 329 901 = some (901, .invokevirtual 109, 3) := by decide +kernel
theorem fl_904 : fe 329 904 = some (904, .aload 2, 1) := by decide +kernel
theorem fl_905 : fe 329 905 = some (905, .aload 0, 1) := by decide +kernel
theorem fl_906 : fe 329 906 = some (906, .iload 3, 1) := by decide +kernel
theorem fl_907 : fe 329 907 = some (907, .iconst 1, 1) := by decide +kernel
theorem fl_908 : fe 329 908 = some (908, .iadd, 1) := by decide +kernel
theorem fl_909 : fe 329 909 = some (909, .iaload, 1) := by decide +kernel
theorem fl_910 : fe 329 910 = some (910, .aload 0, 1) := by decide +kernel
theorem fl_911 : fe 329 911 = some (911, .iload 3, 1) := by decide +kernel
theorem fl_912 : fe 329 912 = some (912, .iconst 2, 1) := by decide +kernel
theorem fl_913 : fe 329 913 = some (913, .iadd, 1) := by decide +kernel
theorem fl_914 : fe 329 914 = some (914, .iaload, 1) := by decide +kernel
theorem fl_915 : fe 329 915 = some (915, .invokevirtual 270, 3) := by decide +kernel
theorem fl_918 : fe 329 918 = some (918, .if_icmp .eq 2199, 3) := by decide +kernel
theorem fl_921 : fe 329 921 = some (921, .iconst 0, 1) := by decide +kernel
theorem fl_922 : fe 329 922 = some (922, .ireturn, 1) := by decide +kernel
theorem fl_923 : fe 329 923 = some (923, .aload 1, 1) := by decide +kernel
theorem fl_924 : fe 329 924 = some (924, .aload 0, 1) := by decide +kernel
theorem fl_925 : fe 329 925 = some (925, .iload 3, 1) := by decide +kernel
theorem fl_926 : fe 329 926 = some (926, .iconst 1, 1) := by decide +kernel
theorem fl_927 : fe 329 927 = some (927, .iadd, 1) := by decide +kernel
theorem fl_928 : fe 329 928 = some (928, .iaload, 1) := by decide +kernel
theorem fl_929 : fe 329 929 = some (929, .aload 0, 1) := by decide +kernel
theorem fl_930 : fe 329 930 = some (930, .iload 3, 1) := by decide +kernel
theorem fl_931 : fe 329 931 = some (931, .iconst 2, 1) := by decide +kernel
theorem fl_932 : fe 329 932 = some (932, .iadd, 1) := by decide +kernel
theorem fl_933 : fe 329 933 = some (933, .iaload, 1) := by decide +kernel
theorem fl_934 : fe 329 934 = some (934, .invokevirtual 118, 3) := by decide +kernel
theorem fl_937 : fe 329 937 = some (937, .aload 2, 1) := by decide +kernel
theorem fl_938 : fe 329 938 = some (938, .aload 0, 1) := by decide +kernel
theorem fl_939 : fe 329 939 = some (939, .iload 3, 1) := by decide +kernel
theorem fl_940 : fe 329 940 = some (940, .iconst 1, 1) := by decide +kernel
theorem fl_941 : fe 329 941 = some (941, .iadd, 1) := by decide +kernel
theorem fl_942 : fe 329 942 = some (942, .iaload, 1) := by decide +kernel
theorem fl_943 : fe 329 943 = some (943, .aload 0, 1) := by decide +kernel
theorem fl_944 : fe 329 944 = some (944, .iload 3, 1) := by decide +kernel
theorem fl_945 : fe 329 945 = some (945, .iconst 2, 1) := by decide +kernel
theorem fl_946 : fe 329 946 = some (946, .iadd, 1) := by decide +kernel
theorem fl_947 : fe 329 947 = some (947, .iaload, 1) := by decide +kernel
theorem fl_948 : fe 329 948 = some (948, .invokevirtual 274, 3) := by decide +kernel
theorem fl_951 : fe 329 951 = some (951, .if_icmp .eq 2199, 3) := by decide +kernel
theorem fl_954 : fe 329 954 = some (954, .iconst 0, 1) := by decide +kernel
theorem fl_955 : fe 329 955 = some (955, .ireturn, 1) := by decide +kernel
theorem fl_956 : fe 329 956 = some (956, .aload 1, 1) := by decide +kernel
theorem fl_957 : fe 329 957 = some (957, .aload 0, 1) := by decide +kernel
theorem fl_958 : fe 329 958 = some (958, .iload 3, 1) := by decide +kernel
theorem fl_959 : fe 329 959 = some (959, .iconst 1, 1) := by decide +kernel
theorem fl_960 : fe 329 960 = some (960, .iadd, 1) := by decide +kernel
theorem fl_961 : fe 329 961 = some (961, .iaload, 1) := by decide +kernel
theorem fl_962 : fe 329 962 = some (962, .invokevirtual 122, 3) := by decide +kernel
theorem fl_965 : fe 329 965 = some (965, .aload 2, 1) := by decide +kernel
theorem fl_966 : fe 329 966 = some (966, .aload 0, 1) := by decide +kernel
theorem fl_967 : fe 329 967 = some (967, .iload 3, 1) := by decide +kernel
theorem fl_968 : fe 329 968 = some (968, .iconst 1, 1) := by decide +kernel
theorem fl_969 : fe 329 969 = some (969, .iadd, 1) := by decide +kernel
theorem fl_970 : fe 329 970 = some (970, .iaload, 1) := by decide +kernel
theorem fl_971 : fe 329 971 = some (971, .invokevirtual 275, 3) := by decide +kernel
theorem fl_974 : fe 329 974 = some (974, .if_icmp .eq 2199, 3) := by decide +kernel
theorem fl_977 : fe 329 977 = some (977, .iconst 0, 1) := by decide +kernel
theorem fl_978 : fe 329 978 = some (978, .ireturn, 1) := by decide +kernel
theorem fl_979 : fe 329 979 = some (979, .aload 1, 1) := by decide +kernel
theorem fl_980 : fe 329 980 = some (980, .aload 0, 1) := by decide +kernel
theorem fl_981 : fe 329 981 = some (981, .iload 3, 1) := by decide +kernel
theorem fl_982 : fe 329 982 = some (982, .iconst 1, 1) := by decide +kernel
theorem fl_983 : fe 329 983 = some (983, .iadd, 1) := by decide +kernel
theorem fl_984 : fe 329 984 = some (984, .iaload, 1) := by decide +kernel
theorem fl_985 : fe 329 985 = some (985, .invokevirtual 124, 3) := by decide +kernel
theorem fl_988 : fe 329 988 = some (988, .aload 2, 1) := by decide +kernel
theorem fl_989 : fe 329 989 = some (989, .aload 0, 1) := by decide +kernel
theorem fl_990 : fe 329 990 = some (990, .iload 3, 1) := by decide +kernel
theorem fl_991 : fe 329 991 = some (991, .iconst 1, 1) := by decide +kernel
theorem fl_992 : fe 329 992 = some (992, .iadd, 1) := by decide +kernel
theorem fl_993 : fe 329 993 = some (993, .iaload, 1) := by decide +kernel
theorem fl_994 : fe 329 994 = some (994, .invokevirtual 276, 3) := by decide +kernel
theorem fl_997 : fe 329 997 = some (997, .if_icmp .eq 2199, 3) := by decide +kernel
theorem fl_1000 : fe 329 1000 = some (1000, .iconst 0, 1) := by decide +kernel
theorem fl_1001 : fe 329 1001 = some (1001, .ireturn, 1) := by decide +kernel
theorem fl_1002 : fe 329 1002 = some (1002, .aload 1, 1) := by decide +kernel
theorem fl_1003 : fe 329 1003 = some (1003, .aload 0, 1) := by decide +kernel
theorem fl_1004 : fe 329 1004 = some (1004, .iload 3, 1) := by decide +kernel
theorem fl_1005 : fe 329 1005 = some (1005, .iconst 1, 1) := by decide +kernel
theorem fl_1006 : fe 329 1006 = some (1006, .iadd, 1) := by decide +kernel
theorem fl_1007 : fe 329 1007 = some (1007, .iaload, 1) := by decide +kernel
theorem fl_1008 : fe 329 1008 = some (1008, .aload 0, 1) := by decide +kernel
theorem fl_1009 : fe 329 1009 = some (1009, .iload 3, 1) := by decide +kernel
theorem fl_1010 : fe 329 1010 = some (1010, .iconst 2, 1) := by decide +kernel
theorem fl_1011 : fe 329 1011 = some (1011, .iadd, 1) := by decide +kernel
theorem fl_1012 : fe 329 1012 = some (1012, .iaload, 1) := by decide +kernel
theorem fl_1013 : fe 329 1013 = some (1013, .aload 0, 1) := by decide +kernel
theorem fl_1014 : fe 329 1014 = some (1014, .iload 3, 1) := by decide +kernel
theorem fl_1015 : fe 329 1015 = some (1015, .iconst 3, 1) := by decide +kernel
theorem fl_1016 : fe 329 1016 = some (1016, .iadd, 1) := by decide +kernel
theorem fl_1017 : fe 329 1017 = some (1017, .iaload, 1) := by decide +kernel
theorem fl_1018 : fe 329 1018 = some (1018, .invokevirtual 125, 3) := by decide +kernel
theorem fl_1021 : fe 329 1021 = some (1021, .aload 2, 1) := by decide +kernel
theorem fl_1022 : fe 329 1022 = some (1022, .aload 0, 1) := by decide +kernel
theorem fl_1023 : fe 329 1023 = some (1023, .iload 3, 1) := by decide +kernel
theorem fl_1024 : fe 329 1024 = some (1024, .iconst 1, 1) := by decide +kernel
theorem fl_1025 : fe 329 1025 = some (1025, .iadd, 1) := by decide +kernel
theorem fl_1026 : fe 329 1026 = some (1026, .iaload, 1) := by decide +kernel
theorem fl_1027 : fe 329 1027 = some (1027, .aload 0, 1) := by decide +kernel
theorem fl_1028 : fe 329 1028 = some (1028, .iload 3, 1) := by decide +kernel
theorem fl_1029 : fe 329 1029 = some (1029, .iconst 2, 1) := by decide +kernel
theorem fl_1030 : fe 329 1030 = some (1030, .iadd, 1) := by decide +kernel
theorem fl_1031 : fe 329 1031 = some (1031, .iaload, 1) := by decide +kernel
theorem fl_1032 : fe 329 1032 = some (1032, .aload 0, 1) := by decide +kernel
theorem fl_1033 : fe 329 1033 = some (1033, .iload 3, 1) := by decide +kernel
theorem fl_1034 : fe 329 1034 = some (1034, .iconst 3, 1) := by decide +kernel
theorem fl_1035 : fe 329 1035 = some (1035, .iadd, 1) := by decide +kernel
theorem fl_1036 : fe 329 1036 = some (1036, .iaload, 1) := by decide +kernel
theorem fl_1037 : fe 329 1037 = some (1037, .invokevirtual 277, 3) := by decide +kernel
theorem fl_1040 : fe 329 1040 = some (1040, .if_icmp .eq 2199, 3) := by decide +kernel
theorem fl_1043 : fe 329 1043 = some (1043, .iconst 0, 1) := by decide +kernel
theorem fl_1044 : fe 329 1044 = some (1044, .ireturn, 1) := by decide +kernel
theorem fl_1045 : fe 329 1045 = some (1045, .aload 1, 1) := by decide +kernel
theorem fl_1046 : fe 329 1046 = some (1046, .aload 0, 1) := by decide +kernel
theorem fl_1047 : fe 329 1047 = some (1047, .iload 3, 1) := by decide +kernel
theorem fl_1048 : fe 329 1048 = some (1048, .iconst 1, 1) := by decide +kernel
theorem fl_1049 : fe 329 1049 = some (1049, .iadd, 1) := by decide +kernel
theorem fl_1050 : fe 329 1050 = some (1050, .iaload, 1) := by decide +kernel
theorem fl_1051 : fe 329 1051 = some (1051, .aload 0, 1) := by decide +kernel
theorem fl_1052 : fe 329 1052 = some (1052, .iload 3, 1) := by decide +kernel
theorem fl_1053 : fe 329 1053 = some (1053, .iconst 2, 1) := by decide +kernel
theorem fl_1054 : fe 329 1054 = some (1054, .iadd, 1) := by decide +kernel
theorem fl_1055 : fe 329 1055 = some (1055, .iaload, 1) := by decide +kernel
theorem fl_1056 : fe 329 1056 = some (1056, .invokevirtual 127, 3) := by decide +kernel
theorem fl_1059 : fe 329 1059 = some (1059, .aload 2, 1) := by decide +kernel
theorem fl_1060 : fe 329 1060 = some (1060, .aload 0, 1) := by decide +kernel
theorem fl_1061 : fe 329 1061 = some (1061, .iload 3, 1) := by decide +kernel
theorem fl_1062 : fe 329 1062 = some (1062, .iconst 1, 1) := by decide +kernel
theorem fl_1063 : fe 329 1063 = some (1063, .iadd, 1) := by decide +kernel
theorem fl_1064 : fe 329 1064 = some (1064, .iaload, 1) := by decide +kernel
theorem fl_1065 : fe 329 1065 = some (1065, .aload 0, 1) := by decide +kernel
theorem fl_1066 : fe 329 1066 = some (1066, .iload 3, 1) := by decide +kernel
theorem fl_1067 : fe 329 1067 = some (1067, .iconst 2, 1) := by decide +kernel
theorem fl_1068 : fe 329 1068 = some (1068, .iadd, 1) := by decide +kernel
theorem fl_1069 : fe 329 1069 = some (1069, .iaload, 1) := by decide +kernel
theorem fl_1070 : fe 329 1070 = some (1070, .invokevirtual 279, 3) := by decide +kernel
theorem fl_1073 : fe 329 1073 = some (1073, .if_icmp .eq 2199, 3) := by decide +kernel
theorem fl_1076 : fe 329 1076 = some (1076, .iconst 0, 1) := by decide +kernel
theorem fl_1077 : fe 329 1077 = some (1077, .ireturn, 1) := by decide +kernel
theorem fl_1078 : fe 329 1078 = some (1078, .aload 1, 1) := by decide +kernel
theorem fl_1079 : fe 329 1079 = some (1079, .aload 0, 1) := by decide +kernel
theorem fl_1080 : fe 329 1080 = some (1080, .iload 3, 1) := by decide +kernel
theorem fl_1081 : fe 329 1081 = some (1081, .iconst 1, 1) := by decide +kernel
theorem fl_1082 : fe 329 1082 = some (1082, .iadd, 1) := by decide +kernel
theorem fl_1083 : fe 329 1083 = some (1083, .iaload, 1) := by decide +kernel
theorem fl_1084 : fe 329 1084 = some (1084, .invokevirtual 128, 3) := by decide +kernel
theorem fl_1087 : fe 329 1087 = some (1087, .aload 2, 1) := by decide +kernel
theorem fl_1088 : fe 329 1088 = some (1088, .aload 0, 1) := by decide +kernel
theorem fl_1089 : fe 329 1089 = some (1089, .iload 3, 1) := by decide +kernel
theorem fl_1090 : fe 329 1090 = some (1090, .iconst 1, 1) := by decide +kernel
theorem fl_1091 : fe 329 1091 = some (1091, .iadd, 1) := by decide +kernel
theorem fl_1092 : fe 329 1092 = some (1092, .iaload, 1) := by decide +kernel
theorem fl_1093 : fe 329 1093 = some (1093, .invokevirtual 280, 3) := by decide +kernel
theorem fl_1096 : fe 329 1096 = some (1096, .if_icmp .eq 2199, 3) := by decide +kernel
theorem fl_1099 : fe 329 1099 = some (1099, .iconst 0, 1) := by decide +kernel
theorem fl_1100 : fe 329 1100 = some (1100, .ireturn, 1) := by decide +kernel
theorem fl_1101 : fe 329 1101 = some (1101, .aload 1, 1) := by decide +kernel
theorem fl_1102 : fe 329 1102 = some (1102, .aload 0, 1) := by decide +kernel
theorem fl_1103 : fe 329 1103 = some (1103, .iload 3, 1) := by decide +kernel
theorem fl_1104 : fe 329 1104 = some (1104, .iconst 1, 1) := by decide +kernel
theorem fl_1105 : fe 329 1105 = some (1105, .iadd, 1) := by decide +kernel
theorem fl_1106 : fe 329 1106 = some (1106, .iaload, 1) := by decide +kernel
theorem fl_1107 : fe 329 1107 = some (1107, .aload 0, 1) := by decide +kernel
theorem fl_1108 : fe 329 1108 = some (1108, .iload 3, 1) := by decide +kernel
theorem fl_1109 : fe 329 1109 = some (1109, .iconst 2, 1) := by decide +kernel
theorem fl_1110 : fe 329 1110 = some (1110, .iadd, 1) := by decide +kernel
theorem fl_1111 : fe 329 1111 = some (1111, .iaload, 1) := by decide +kernel
theorem fl_1112 : fe 329 1112 = some (1112, .invokevirtual 132, 3) := by decide +kernel
theorem fl_1115 : fe 329 1115 = some (1115, .aload 2, 1) := by decide +kernel
theorem fl_1116 : fe 329 1116 = some (1116, .aload 0, 1) := by decide +kernel
theorem fl_1117 : fe 329 1117 = some (1117, .iload 3, 1) := by decide +kernel
theorem fl_1118 : fe 329 1118 = some (1118, .iconst 1, 1) := by decide +kernel
theorem fl_1119 : fe 329 1119 = some (1119, .iadd, 1) := by decide +kernel
theorem fl_1120 : fe 329 1120 = some (1120, .iaload, 1) := by decide +kernel
theorem fl_1121 : fe 329 1121 = some (1121, .aload 0, 1) := by decide +kernel
theorem fl_1122 : fe 329 1122 = some (1122, .iload 3, 1) := by decide +kernel
theorem fl_1123 : fe 329 1123 = some (1123, .iconst 2, 1) := by decide +kernel
theorem fl_1124 : fe 329 1124 = some (1124, .iadd, 1) := by decide +kernel
theorem fl_1125 : fe 329 1125 = some (1125, .iaload, 1) := by decide +kernel
theorem fl_1126 : fe 329 1126 = some (1126, .invokevirtual 283, 3) := by decide +kernel
theorem fl_1129 : fe 329 1129 = some (1129, .if_icmp .eq 2199, 3) := by decide +kernel
theorem fl_1132 : fe 329 1132 = some (1132, .iconst 0, 1) := by decide +kernel
theorem fl_1133 : fe 329 1133 = some (1133, .ireturn, 1) := by decide +kernel
theorem fl_1134 : fe 329 1134 = some (1134, .aload 1, 1) := by decide +kernel
theorem fl_1135 : fe 329 1135 = some (1135, .aload 0, 1) := by decide +kernel
theorem fl_1136 : fe 329 1136 = some (1136, .iload 3, 1) := by decide +kernel
theorem fl_1137 : fe 329 1137 = some (1137, .iconst 1, 1) := by decide +kernel
theorem fl_1138 : fe 329 1138 = some (1138, .iadd, 1) := by decide +kernel
theorem fl_1139 : fe 329 1139 = some (1139, .iaload, 1) := by decide +kernel
theorem fl_1140 : fe 329 1140 = some (1140, .invokevirtual 133, 3) := by decide +kernel
theorem fl_1143 : fe 329 1143 = some (1143, .aload 2, 1) := by decide +kernel
theorem fl_1144 : fe 329 1144 = some (1144, .aload 0, 1) := by decide +kernel
theorem fl_1145 : fe 329 1145 = some (1145, .iload 3, 1) := by decide +kernel
theorem fl_1146 : fe 329 1146 = some (1146, .iconst 1, 1) := by decide +kernel
theorem fl_1147 : fe 329 1147 = some (1147, .iadd, 1) := by decide +kernel
theorem fl_1148 : fe 329 1148 = some (1148, .iaload, 1) := by decide +kernel
theorem fl_1149 : fe 329 1149 = some (1149, .invokevirtual 284, 3) := by decide +kernel
theorem fl_1152 : fe 329 1152 = some (1152, .if_icmp .eq 2199, 3) := by decide +kernel
theorem fl_1155 : fe 329 1155 = some (1155, .iconst 0, 1) := by decide +kernel
theorem fl_1156 : fe 329 1156 = some (1156, .ireturn, 1) := by decide +kernel
theorem fl_1157 : fe 329 1157 = some (1157, .aload 1, 1) := by decide +kernel
theorem fl_1158 : fe 329 1158 = some (1158, .aload 0, 1) := by decide +kernel
theorem fl_1159 : fe 329 1159 = some (1159, .iload 3, 1) := by decide +kernel
theorem fl_1160 : fe 329 1160 = some (1160, .iconst 1, 1) := by decide +kernel
theorem fl_1161 : fe 329 1161 = some (1161, .iadd, 1) := by decide +kernel
theorem fl_1162 : fe 329 1162 = some (1162, .iaload, 1) := by decide +kernel
theorem fl_1163 : fe 329 1163 = some (1163, .invokevirtual 135, 3) := by decide +kernel
theorem fl_1166 : fe 329 1166 = some (1166, .aload 2, 1) := by decide +kernel
theorem fl_1167 : fe 329 1167 = some (1167, .aload 0, 1) := by decide +kernel
theorem fl_1168 : fe 329 1168 = some (1168, .iload 3, 1) := by decide +kernel
theorem fl_1169 : fe 329 1169 = some (1169, .iconst 1, 1) := by decide +kernel
theorem fl_1170 : fe 329 1170 = some (1170, .iadd, 1) := by decide +kernel
theorem fl_1171 : fe 329 1171 = some (1171, .iaload, 1) := by decide +kernel
theorem fl_1172 : fe 329 1172 = some (1172, .invokevirtual 286, 3) := by decide +kernel
theorem fl_1175 : fe 329 1175 = some (1175, .if_icmp .eq 2199, 3) := by decide +kernel
theorem fl_1178 : fe 329 1178 = some (1178, .iconst 0, 1) := by decide +kernel
theorem fl_1179 : fe 329 1179 = some (1179, .ireturn, 1) := by decide +kernel
theorem fl_1180 : fe 329 1180 = some (1180, .aload 1, 1) := by decide +kernel
theorem fl_1181 : fe 329 1181 = some (1181, .aload 0, 1) := by decide +kernel
theorem fl_1182 : fe 329 1182 = some (1182, .iload 3, 1) := by decide +kernel
theorem fl_1183 : fe 329 1183 = some (1183, .iconst 1, 1) := by decide +kernel
theorem fl_1184 : fe 329 1184 = some (1184, .iadd, 1) := by decide +kernel
theorem fl_1185 : fe 329 1185 = some (1185, .iaload, 1) := by decide +kernel
theorem fl_1186 : fe 329 1186 = some (1186, .invokevirtual 137, 3) := by decide +kernel
theorem fl_1189 : fe 329 1189 = some (1189, .aload 2, 1) := by decide +kernel
theorem fl_1190 : fe 329 1190 = some (1190, .aload 0, 1) := by decide +kernel
theorem fl_1191 : fe 329 1191 = some (1191, .iload 3, 1) := by decide +kernel
theorem fl_1192 : fe 329 1192 = some (1192, .iconst 1, 1) := by decide +kernel
theorem fl_1193 : fe 329 1193 = some (1193, .iadd, 1) := by decide +kernel
theorem fl_1194 : fe 329 1194 = some (1194, .iaload, 1) := by decide +kernel
theorem fl_1195 : fe 329 1195 = some (1195, .invokevirtual 287, 3) := by decide +kernel
theorem fl_1198 : fe 329 1198 = some (1198, .if_icmp .eq 2199, 3) := by decide +kernel
theorem fl_1201 : fe 329 1201 = some (1201, .iconst 0, 1) := by decide +kernel
theorem fl_1202 : fe 329 1202 = some (1202, .ireturn, 1) := by decide +kernel
theorem fl_1203 : fe 329 1203 = some (1203, .aload 1, 1) := by decide +kernel
theorem fl_1204 : fe 329 1204 = some (1204, .aload 0, 1) := by decide +kernel
theorem fl_1205 : fe 329 1205 = some (1205, .iload 3, 1) := by decide +kernel
theorem fl_1206 : fe 329 1206 = some (1206, .iconst 1, 1) := by decide +kernel
theorem fl_1207 : fe 329 1207 = some (1207, .iadd, 1) := by decide +kernel
theorem fl_1208 : fe 329 1208 = some (1208, .iaload, 1) := by decide +kernel
theorem fl_1209 : fe 329 1209 = some (1209, .invokevirtual 139, 3) := by decide +kernel
theorem fl_1212 : fe 329 1212 = some (1212, .aload 2, 1) := by decide +kernel
theorem fl_1213 : fe 329 1213 = some (1213, .aload 0, 1) := by decide +kernel
theorem fl_1214 : fe 329 1214 = some (1214, .iload 3, 1) := by decide +kernel
theorem fl_1215 : fe 329 1215 = some (1215, .iconst 1, 1) := by decide +kernel
theorem fl_1216 : fe 329 1216 = some (1216, .iadd, 1) := by decide +kernel
theorem fl_1217 : fe 329 1217 = some (1217, .iaload, 1) := by decide +kernel
theorem fl_1218 : fe 329 1218 = some (1218, .invokevirtual 288, 3) := by decide +kernel
theorem fl_1221 : fe 329 1221 = some (1221, .if_icmp .eq 2199, 3) := by decide +kernel
theorem fl_1224 : fe 329 1224 = some (1224, .iconst 0, 1) := by decide +kernel
theorem fl_1225 : fe 329 1225 = some (1225, .ireturn, 1) := by decide +kernel
theorem fl_1226 : fe 329 1226 = some (1226, .aload 1, 1) := by decide +kernel
theorem fl_1227 : fe 329 1227 = some (1227, .aload 0, 1) := by decide +kernel
theorem fl_1228 : fe 329 1228 = some (1228, .iload 3, 1) := by decide +kernel
theorem fl_1229 : fe 329 1229 = some (1229, .iconst 1, 1) := by decide +kernel
theorem fl_1230 : fe 329 1230 = some (1230, .iadd, 1) := by decide +kernel
theorem fl_1231 : fe 329 1231 = some (1231, .iaload, 1) := by decide +kernel
theorem fl_1232 : fe 329 1232 = some (1232, .invokevirtual 140, 3) := by decide +kernel
theorem fl_1235 : fe 329 1235 = some (1235, .aload 2, 1) := by decide +kernel
theorem fl_1236 : fe 329 1236 = some (1236, .aload 0, 1) := by decide +kernel
theorem fl_1237 : fe 329 1237 = some (1237, .iload 3, 1) := by decide +kernel
theorem fl_1238 : fe 329 1238 = some (1238, .iconst 1, 1) := by decide +kernel
theorem fl_1239 : fe 329 1239 = some (1239, .iadd, 1) := by decide +kernel
