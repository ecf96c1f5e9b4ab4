theorem dL_law__208 : decode code 208 = .ok (.aload_n 1, 1) := by decide +kernel
theorem dL_law__209 : decode code 209 = .ok (.aload_n 0, 1) := by decide +kernel
theorem dL_law__210 : decode code 210 = .ok (.iload 4, 2) := by decide +kernel
theorem dL_law__212 : decode code 212 = .ok (.iconst 1, 1) := by decide +kernel
theorem dL_law__213 : decode code 213 = .ok (.iadd, 1) := by decide +kernel
theorem dL_law__214 : decode code 214 = .ok (.iaload, 1) := by decide +kernel
theorem dL_law__215 : decode code 215 = .ok (.aload_n 0, 1) := by decide +kernel
theorem dL_law__216 : decode code 216 = .ok (.iload 4, 2) := by decide +kernel
theorem dL_law__218 : decode code 218 = .ok (.iconst 2, 1) := by decide +kernel
theorem dL_law__219 : decode code 219 = .ok (.iadd, 1) := by decide +kernel
theorem dL_law__220 : decode code 220 = .ok (.iaload, 1) := by decide +kernel
theorem dL_law__221 : decode code 221 = .ok (.aload_n 0, 1) := by decide +kernel
theorem dL_law__222 : decode code 222 = .ok (.iload 4, 2) := by decide +kernel
theorem dL_law__224 : decode code 224 = .ok (.iconst 3, 1) := by decide +kernel
theorem dL_law__225 : decode code 225 = .ok (.iadd, 1) := by decide +kernel
theorem dL_law__226 : decode code 226 = .ok (.iaload, 1) := by decide +kernel
theorem dL_law__227 : decode code 227 = .ok (.aload_n 0, 1) := by decide +kernel
theorem dL_law__228 : decode code 228 = .ok (.iload 4, 2) := by decide +kernel
theorem dL_law__230 : decode code 230 = .ok (.iconst 4, 1) := by decide +kernel
theorem dL_law__231 : decode code 231 = .ok (.iadd, 1) := by decide +kernel
theorem dL_law__232 : decode code 232 = .ok (.iaload, 1) := by decide +kernel
theorem dL_law__233 : decode code 233 = .ok (.aload_n 0, 1) := by decide +kernel
theorem dL_law__234 : decode code 234 = .ok (.iload 4, 2) := by decide +kernel
theorem dL_law__236 : decode code 236 = .ok (.iconst 5, 1) := by decide +kernel
theorem dL_law__237 : decode code 237 = .ok (.iadd, 1) := by decide +kernel
theorem dL_law__238 : decode code 238 = .ok (.iaload, 1) := by decide +kernel
theorem dL_law__239 : decode code 239 = .ok (.invokevirtual 114, 3) := by decide +kernel
theorem dL_law__242 : decode code 242 = .ok (.aload_n 2, 1) := by decide +kernel
theorem dL_law__243 : decode code 243 = .ok (.aload_n 0, 1) := by decide +kernel
theorem dL_law__244 : decode code 244 = .ok (.iload 4, 2) := by decide +kernel
theorem dL_law__246 : decode code 246 = .ok (.iconst 1, 1) := by decide +kernel
theorem dL_law__247 : decode code 247 = .ok (.iadd, 1) := by decide +kernel
theorem dL_law__248 : decode code 248 = .ok (.iaload, 1) := by decide +kernel
theorem dL_law__249 : decode code 249 = .ok (.aload_n 0, 1) := by decide +kernel
theorem dL_law__250 : decode code 250 = .ok (.iload 4, 2) := by decide +kernel
theorem dL_law__252 : decode code 252 = .ok (.iconst 2, 1) := by decide +kernel
theorem dL_law__253 : decode code 253 = .ok (.iadd, 1) := by decide +kernel
theorem dL_law__254 : decode code 254 = .ok (.iaload, 1) := by decide +kernel
theorem dL_law__255 : decode code 255 = .ok (.aload_n 0, 1) := by decide +kernel
theorem dL_law__256 : decode code 256 = .ok (.iload 4, 2) := by decide +kernel
theorem dL_law__258 : decode code 258 = .ok (.iconst 3, 1) := by decide +kernel
theorem dL_law__259 : decode code 259 = .ok (.iadd, 1) := by decide +kernel
theorem dL_law__260 : decode code 260 = .ok (.iaload, 1) := by decide +kernel
theorem dL_law__261 : decode code 261 = .ok (.aload_n 0, 1) := by decide +kernel
theorem dL_law__262 : decode code 262 = .ok (.iload 4, 2) := by decide +kernel
theorem dL_law__264 : decode code 264 = .ok (.iconst 4, 1) := by decide +kernel
theorem dL_law__265 : decode code 265 = .ok (.iadd, 1) := by decide +kernel
theorem dL_law__266 : decode code 266 = .ok (.iaload, 1) := by decide +kernel
theorem dL_law__267 : decode code 267 = .ok (.aload_n 0, 1) := by decide +kernel
theorem dL_law__268 : decode code 268 = .ok (.iload 4, 2) := by decide +kernel
theorem dL_law__270 : decode code 270 = .ok (.iconst 5, 1) := by decide +kernel
theorem dL_law__271 : decode code 271 = .ok (.iadd, 1) := by decide +kernel
theorem dL_law__272 : decode code 272 = .ok (.iaload, 1) := by decide +kernel
theorem dL_law__273 : decode code 273 = .ok (.invokevirtual 118, 3) := by decide +kernel
theorem dL_law__276 : decode code 276 = .ok (.if_icmp .eq 2215, 3) := by decide +kernel
theorem dL_law__281 : decode code 281 = .ok (.aload_n 1, 1) := by decide +kernel
theorem dL_law__282 : decode code 282 = .ok (.aload_n 0, 1) := by decide +kernel
theorem dL_law__283 : decode code 283 = .ok (.iload 4, 2) := by decide +kernel
theorem dL_law__285 : decode code 285 = .ok (.iconst 1, 1) := by decide +kernel
theorem dL_law__286 : decode code 286 = .ok (.iadd, 1) := by decide +kernel
theorem dL_law__287 : decode code 287 = .ok (.iaload, 1) := by decide +kernel
theorem dL_law__288 : decode code 288 = .ok (.aload_n 3, 1) := by decide +kernel
theorem dL_law__289 : decode code 289 = .ok (.invokestatic 119, 3) := by decide +kernel
theorem dL_law__292 : decode code 292 = .ok (.istore 5, 2) := by decide +kernel
theorem dL_law__294 : decode code 294 = .ok (.aload_n 2, 1) := by decide +kernel
theorem dL_law__295 : decode code 295 = .ok (.aload_n 0, 1) := by decide +kernel
theorem dL_law__296 : decode code 296 = .ok (.iload 4, 2) := by decide +kernel
theorem dL_law__298 : decode code 298 = .ok (.iconst 1, 1) := by decide +kernel
theorem dL_law__299 : decode code 299 = .ok (.iadd, 1) := by decide +kernel
theorem dL_law__300 : decode code 300 = .ok (.iaload, 1) := by decide +kernel
theorem dL_law__301 : decode code 301 = .ok (.invokevirtual 124, 3) := by decide +kernel
theorem dL_law__304 : decode code 304 = .ok (.istore 6, 2) := by decide +kernel
theorem dL_law__306 : decode code 306 = .ok (.aload_n 2, 1) := by decide +kernel
theorem dL_law__307 : decode code 307 = .ok (.invokevirtual 125, 3) := by decide +kernel
theorem dL_law__310 : decode code 310 = .ok (.iload 5, 2) := by decide +kernel
theorem dL_law__312 : decode code 312 = .ok (.if_icmp .eq 5, 3) := by decide +kernel
theorem dL_law__317 : decode code 317 = .ok (.iload 5, 2) := by decide +kernel
theorem dL_law__319 : decode code 319 = .ok (.ifCond .ne 15, 3) := by decide +kernel
theorem dL_law__322 : decode code 322 = .ok (.aload_n 3, 1) := by decide +kernel
theorem dL_law__323 : decode code 323 = .ok (.iconst 0, 1) := by decide +kernel
theorem dL_law__324 : decode code 324 = .ok (.laload, 1) := by decide +kernel
theorem dL_law__325 : decode code 325 = .ok (.iload 6, 2) := by decide +kernel
theorem dL_law__327 : decode code 327 = .ok (.i2l, 1) := by decide +kernel
theorem dL_law__328 : decode code 328 = .ok (.lcmp, 1) := by decide +kernel
theorem dL_law__329 : decode code 329 = .ok (.ifCond .eq 5, 3) := by decide +kernel
theorem dL_law__334 : decode code 334 = .ok (.goto 2157, 3) := by decide +kernel
theorem dL_law__337 : decode code 337 = .ok (.aload_n 1, 1) := by decide +kernel
theorem dL_law__338 : decode code 338 = .ok (.aload_n 0, 1) := by decide +kernel
theorem dL_law__339 : decode code 339 = .ok (.iload 4, 2) := by decide +kernel
theorem dL_law__341 : decode code 341 = .ok (.iconst 1, 1) := by decide +kernel
theorem dL_law__342 : decode code 342 = .ok (.iadd, 1) := by decide +kernel
theorem dL_law__343 : decode code 343 = .ok (.iaload, 1) := by decide +kernel
theorem dL_law__344 : decode code 344 = .ok (.aload_n 3, 1) := by decide +kernel
theorem dL_law__345 : decode code 345 = .ok (.invokestatic 129, 3) := by decide +kernel
theorem dL_law__348 : decode code 348 = .ok (.istore 5, 2) := by decide +kernel
theorem dL_law__350 : decode code 350 = .ok (.aload_n 2, 1) := by decide +kernel
theorem dL_law__351 : decode code 351 = .ok (.aload_n 0, 1) := by decide +kernel
theorem dL_law__352 : decode code 352 = .ok (.iload 4, 2) := by decide +kernel
theorem dL_law__354 : decode code 354 = .ok (.iconst 1, 1) := by decide +kernel
theorem dL_law__355 : decode code 355 = .ok (.iadd, 1) := by decide +kernel
theorem dL_law__356 : decode code 356 = .ok (.iaload, 1) := by decide +kernel
theorem dL_law__357 : decode code 357 = .ok (.invokevirtual 131, 3) := by decide +kernel
theorem dL_law__360 : decode code 360 = .ok (.istore 6, 2) := by decide +kernel
theorem dL_law__362 : decode code 362 = .ok (.aload_n 2, 1) := by decide +kernel
theorem dL_law__363 : decode code 363 = .ok (.invokevirtual 125, 3) := by decide +kernel
theorem dL_law__366 : decode code 366 = .ok (.iload 5, 2) := by decide +kernel
theorem dL_law__368 : decode code 368 = .ok (.if_icmp .eq 5, 3) := by decide +kernel
theorem dL_law__373 : decode code 373 = .ok (.iload 5, 2) := by decide +kernel
theorem dL_law__375 : decode code 375 = .ok (.ifCond .ne 15, 3) := by decide +kernel
theorem dL_law__378 : decode code 378 = .ok (.aload_n 3, 1) := by decide +kernel
theorem dL_law__379 : decode code 379 = .ok (.iconst 0, 1) := by decide +kernel
theorem dL_law__380 : decode code 380 = .ok (.laload, 1) := by decide +kernel
theorem dL_law__381 : decode code 381 = .ok (.iload 6, 2) := by decide +kernel
theorem dL_law__383 : decode code 383 = .ok (.i2l, 1) := by decide +kernel
theorem dL_law__384 : decode code 384 = .ok (.lcmp, 1) := by decide +kernel
theorem dL_law__385 : decode code 385 = .ok (.ifCond .eq 5, 3) := by decide +kernel
theorem dL_law__390 : decode code 390 = .ok (.goto 2101, 3) := by decide +kernel
theorem dL_law__393 : decode code 393 = .ok (.aload_n 1, 1) := by decide +kernel
theorem dL_law__394 : decode code 394 = .ok (.aload_n 0, 1) := by decide +kernel
theorem dL_law__395 : decode code 395 = .ok (.iload 4, 2) := by decide +kernel
theorem dL_law__397 : decode code 397 = .ok (.iconst 1, 1) := by decide +kernel
theorem dL_law__398 : decode code 398 = .ok (.iadd, 1) := by decide +kernel
theorem dL_law__399 : decode code 399 = .ok (.iaload, 1) := by decide +kernel
theorem dL_law__400 : decode code 400 = .ok (.aload_n 3, 1) := by decide +kernel
theorem dL_law__401 : decode code 401 = .ok (.invokestatic 132, 3) := by decide +kernel
theorem dL_law__404 : decode code 404 = .ok (.istore 5, 2) := by decide +kernel
theorem dL_law__406 : decode code 406 = .ok (.aload_n 2, 1) := by decide +kernel
theorem dL_law__407 : decode code 407 = .ok (.aload_n 0, 1) := by decide +kernel
theorem dL_law__408 : decode code 408 = .ok (.iload 4, 2) := by decide +kernel
theorem dL_law__410 : decode code 410 = .ok (.iconst 1, 1) := by decide +kernel
theorem dL_law__411 : decode code 411 = .ok (.iadd, 1) := by decide +kernel
theorem dL_law__412 : decode code 412 = .ok (.iaload, 1) := by decide +kernel
theorem dL_law__413 : decode code 413 = .ok (.invokevirtual 134, 3) := by decide +kernel
theorem dL_law__416 : decode code 416 = .ok (.istore 6, 2) := by decide +kernel
theorem dL_law__418 : decode code 418 = .ok (.aload_n 2, 1) := by decide +kernel
theorem dL_law__419 : decode code 419 = .ok (.invokevirtual 125, 3) := by decide +kernel
theorem dL_law__422 : decode code 422 = .ok (.iload 5, 2) := by decide +kernel
theorem dL_law__424 : decode code 424 = .ok (.if_icmp .eq 5, 3) := by decide +kernel
theorem dL_law__429 : decode code 429 = .ok (.iload 5, 2) := by decide +kernel
theorem dL_law__431 : decode code 431 = .ok (.ifCond .ne 15, 3) := by decide +kernel
theorem dL_law__434 : decode code 434 = .ok (.aload_n 3, 1) := by decide +kernel
theorem dL_law__435 : decode code 435 = .ok (.iconst 0, 1) := by decide +kernel
theorem dL_law__436 : decode code 436 = .ok (.laload, 1) := by decide +kernel
theorem dL_law__437 : decode code 437 = .ok (.iload 6, 2) := by decide +kernel
theorem dL_law__439 : decode code 439 = .ok (.i2l, 1) := by decide +kernel
theorem dL_law__440 : decode code 440 = .ok (.lcmp, 1) := by decide +kernel
theorem dL_law__441 : decode code 441 = .ok (.ifCond .eq 5, 3) := by decide +kernel
theorem dL_law__446 : decode code 446 = .ok (.goto 2045, 3) := by decide +kernel
theorem dL_law__449 : decode code 449 = .ok (.aload_n 1, 1) := by decide +kernel
theorem dL_law__450 : decode code 450 = .ok (.aload_n 0, 1) := by decide +kernel
theorem dL_law__451 : decode code 451 = .ok (.iload 4, 2) := by decide +kernel
theorem dL_law__453 : decode code 453 = .ok (.iconst 1, 1) := by decide +kernel
theorem dL_law__454 : decode code 454 = .ok (.iadd, 1) := by decide +kernel
theorem dL_law__455 : decode code 455 = .ok (.iaload, 1) := by decide +kernel
theorem dL_law__456 : decode code 456 = .ok (.aload_n 3, 1) := by decide +kernel
theorem dL_law__457 : decode code 457 = .ok (.invokestatic 135, 3) := by decide +kernel
theorem dL_law__460 : decode code 460 = .ok (.istore 5, 2) := by decide +kernel
theorem dL_law__462 : decode code 462 = .ok (.aload_n 2, 1) := by decide +kernel
theorem dL_law__463 : decode code 463 = .ok (.aload_n 0, 1) := by decide +kernel
theorem dL_law__464 : decode code 464 = .ok (.iload 4, 2) := by decide +kernel
theorem dL_law__466 : decode code 466 = .ok (.iconst 1, 1) := by decide +kernel
theorem dL_law__467 : decode code 467 = .ok (.iadd, 1) := by decide +kernel
theorem dL_law__468 : decode code 468 = .ok (.iaload, 1) := by decide +kernel
theorem dL_law__469 : decode code 469 = .ok (.invokevirtual 137, 3) := by decide +kernel
theorem dL_law__472 : decode code 472 = .ok (.istore 6, 2) := by decide +kernel
theorem dL_law__474 : decode code 474 = .ok (.aload_n 2, 1) := by decide +kernel
theorem dL_law__475 : decode code 475 = .ok (.invokevirtual 125, 3) := by decide +kernel
theorem dL_law__478 : decode code 478 = .ok (.iload 5, 2) := by decide +kernel
theorem dL_law__480 : decode code 480 = .ok (.if_icmp .eq 5, 3) := by decide +kernel
theorem dL_law__485 : decode code 485 = .ok (.iload 5, 2) := by decide +kernel
theorem dL_law__487 : decode code 487 = .ok (.ifCond .ne 15, 3) := by decide +kernel
theorem dL_law__490 : decode code 490 = .ok (.aload_n 3, 1) := by decide +kernel
theorem dL_law__491 : decode code 491 = .ok (.iconst 0, 1) := by decide +kernel
theorem dL_law__492 : decode code 492 = .ok (.laload, 1) := by decide +kernel
theorem dL_law__493 : decode code 493 = .ok (.iload 6, 2) := by decide +kernel
theorem dL_law__495 : decode code 495 = .ok (.i2l, 1) := by decide +kernel
theorem dL_law__496 : decode code 496 = .ok (.lcmp, 1) := by decide +kernel
theorem dL_law__497 : decode code 497 = .ok (.ifCond .eq 5, 3) := by decide +kernel
theorem dL_law__502 : decode code 502 = .ok (.goto 1989, 3) := by decide +kernel
theorem dL_law__505 : decode code 505 = .ok (.aload_n 1, 1) := by decide +kernel
theorem dL_law__506 : decode code 506 = .ok (.invokevirtual 138, 3) := by decide +kernel
theorem dL_law__509 : decode code 509 = .ok (.aload_n 2, 1) := by decide +kernel
theorem dL_law__510 : decode code 510 = .ok (.invokevirtual 141, 3) := by decide +kernel
theorem dL_law__513 : decode code 513 = .ok (.if_icmp .eq 1978, 3) := by decide +kernel
theorem dL_law__518 : decode code 518 = .ok (.aload_n 1, 1) := by decide +kernel
theorem dL_law__519 : decode code 519 = .ok (.invokevirtual 142, 3) := by decide +kernel
theorem dL_law__522 : decode code 522 = .ok (.aload_n 2, 1) := by decide +kernel
theorem dL_law__523 : decode code 523 = .ok (.invokevirtual 145, 3) := by decide +kernel
theorem dL_law__526 : decode code 526 = .ok (.if_icmp .eq 1965, 3) := by decide +kernel
theorem dL_law__531 : decode code 531 = .ok (.aload_n 1, 1) := by decide +kernel
theorem dL_law__532 : decode code 532 = .ok (.aload_n 0, 1) := by decide +kernel
theorem dL_law__533 : decode code 533 = .ok (.iload 4, 2) := by decide +kernel
theorem dL_law__535 : decode code 535 = .ok (.iconst 1, 1) := by decide +kernel
theorem dL_law__536 : decode code 536 = .ok (.iadd, 1) := by decide +kernel
theorem dL_law__537 : decode code 537 = .ok (.iaload, 1) := by decide +kernel
theorem dL_law__538 : decode code 538 = .ok (.aload_n 3, 1) := by decide +kernel
theorem dL_law__539 : decode code 539 = .ok (.invokestatic 146, 3) := by decide +kernel
theorem dL_law__542 : decode code 542 = .ok (.istore 5, 2) := by decide +kernel
theorem dL_law__544 : decode code 544 = .ok (.aload_n 2, 1) := by decide +kernel
theorem dL_law__545 : decode code 545 = .ok (.aload_n 0, 1) := by decide +kernel
theorem dL_law__546 : decode code 546 = .ok (.iload 4, 2) := by decide +kernel
theorem dL_law__548 : decode code 548 = .ok (.iconst 1, 1) := by decide +kernel
theorem dL_law__549 : decode code 549 = .ok (.iadd, 1) := by decide +kernel
theorem dL_law__550 : decode code 550 = .ok (.iaload, 1) := by decide +kernel
theorem dL_law__551 : decode code 551 = .ok (.invokevirtual 148, 3) := by decide +kernel
theorem dL_law__554 : decode code 554 = .ok (.istore 6, 2) := by decide +kernel
theorem dL_law__556 : decode code 556 = .ok (.aload_n 2, 1) := by decide +kernel
theorem dL_law__557 : decode code 557 = .ok (.invokevirtual 125, 3) := by decide +kernel
theorem dL_law__560 : decode code 560 = .ok (.iload 5, 2) := by decide +kernel
theorem dL_law__562 : decode code 562 = .ok (.if_icmp .eq 5, 3) := by decide +kernel
theorem dL_law__567 : decode code 567 = .ok (.iload 5, 2) := by decide +kernel
theorem dL_law__569 : decode code 569 = .ok (.ifCond .ne 15, 3) := by decide +kernel
theorem dL_law__572 : decode code 572 = .ok (.aload_n 3, 1) := by decide +kernel
theorem dL_law__573 : decode code 573 = .ok (.iconst 0, 1) := by decide +kernel
theorem dL_law__574 : decode code 574 = .ok (.laload, 1) := by decide +kernel
theorem dL_law__575 : decode code 575 = .ok (.iload 6, 2) := by decide +kernel
theorem dL_law__577 : decode code 577 = .ok (.i2l, 1) := by decide +kernel
theorem dL_law__578 : decode code 578 = .ok (.lcmp, 1) := by decide +kernel
theorem dL_law__579 : decode code 579 = .ok (.ifCond .eq 5, 3) := by decide +kernel
theorem dL_law__584 : decode code 584 = .ok (.goto 1907, 3) := by decide +kernel
theorem dL_law__587 : decode code 587 = .ok (.aload_n 1, 1) := by decide +kernel
theorem dL_law__588 : decode code 588 = .ok (.aload_n 0, 1) := by decide +kernel
theorem dL_law__589 : decode code 589 = .ok (.iload 4, 2) := by decide +kernel
theorem dL_law__591 : decode code 591 = .ok (.iconst 1, 1) := by decide +kernel
theorem dL_law__592 : decode code 592 = .ok (.iadd, 1) := by decide +kernel
theorem dL_law__593 : decode code 593 = .ok (.iaload, 1) := by decide +kernel
theorem dL_law__594 : decode code 594 = .ok (.aload_n 0, 1) := by decide +kernel
theorem dL_law__595 : decode code 595 = .ok (.iload 4, 2) := by decide +kernel
theorem dL_law__597 : decode code 597 = .ok (.iconst 2, 1) := by decide +kernel
theorem dL_law__598 : decode code 598 = .ok (.iadd, 1) := by decide +kernel
theorem dL_law__599 : decode code 599 = .ok (.iaload, 1) := by decide +kernel
theorem dL_law__600 : decode code 600 = .ok (.aload_n 3, 1) := by decide +kernel
theorem dL_law__601 : decode code 601 = .ok (.invokestatic 149, 3) := by decide +kernel
theorem dL_law__604 : decode code 604 = .ok (.istore 5, 2) := by decide +kernel
theorem dL_law__606 : decode code 606 = .ok (.aload_n 2, 1) := by decide +kernel
theorem dL_law__607 : decode code 607 = .ok (.aload_n 0, 1) := by decide +kernel
theorem dL_law__608 : decode code 608 = .ok (.iload 4, 2) := by decide +kernel
theorem dL_law__610 : decode code 610 = .ok (.iconst 1, 1) := by decide +kernel
theorem dL_law__611 : decode code 611 = .ok (.iadd, 1) := by decide +kernel
theorem dL_law__612 : decode code 612 = .ok (.iaload, 1) := by decide +kernel
theorem dL_law__613 : decode code 613 = .ok (.aload_n 0, 1) := by decide +kernel
theorem dL_law__614 : decode code 614 = .ok (.iload 4, 2) := by decide +kernel
theorem dL_law__616 : decode code 616 = .ok (.iconst 2, 1) := by decide +kernel
theorem dL_law__617 : decode code 617 = .ok (.iadd, 1) := by decide +kernel
theorem dL_law__618 : decode code 618 = .ok (.iaload, 1) := by decide +kernel
theorem dL_law__619 : decode code 619 = .ok (.invokevirtual 152, 3) := by decide +kernel
theorem dL_law__622 : decode code 622 = .ok (.istore 6, 2) := by decide +kernel
theorem dL_law__624 : decode code 624 = .ok (.aload_n 2, 1) := by decide +kernel
theorem dL_law__625 : decode code 625 = .ok (.invokevirtual 125, 3) := by decide +kernel
theorem dL_law__628 : decode code 628 = .ok (.iload 5, 2) := by decide +kernel
theorem dL_law__630 : decode code 630 = .ok (.if_icmp .eq 5, 3) := by decide +kernel
theorem dL_law__635 : decode code 635 = .ok (.iload 5, 2) := by decide +kernel
theorem dL_law__637 : decode code 637 = .ok (.ifCond .ne 15, 3) := by decide +kernel
theorem dL_law__640 : decode code 640 = .ok (.aload_n 3, 1) := by decide +kernel
theorem dL_law__641 : decode code 641 = .ok (.iconst 0, 1) := by decide +kernel
theorem dL_law__642 : decode code 642 = .ok (.laload, 1) := by decide +kernel
theorem dL_law__643 : decode code 643 = .ok (.iload 6, 2) := by decide +kernel
theorem dL_law__645 : decode code 645 = .ok (.i2l, 1) := by decide +kernel
theorem dL_law__646 : decode code 646 = .ok (.lcmp, 1) := by decide +kernel
theorem dL_law__647 : decode code 647 = .ok (.ifCond .eq 5, 3) := by decide +kernel
theorem dL_law__652 : decode code 652 = .ok (.goto 1839, 3) := by decide +kernel
theorem dL_law__655 : decode code 655 = .ok (.aload_n 1, 1) := by decide +kernel
theorem dL_law__656 : decode code 656 = .ok (.aload_n 0, 1) := by decide +kernel
theorem dL_law__657 : decode code 657 = .ok (.iload 4, 2) := by decide +kernel
theorem dL_law__659 : decode code 659 = .ok (.iconst 1, 1) := by decide +kernel
theorem dL_law__660 : decode code 660 = .ok (.iadd, 1) := by decide +kernel
theorem dL_law__661 : decode code 661 = .ok (.iaload, 1) := by decide +kernel
theorem dL_law__662 : decode code 662 = .ok (.aload_n 0, 1) := by decide +kernel
theorem dL_law__663 : decode code 663 = .ok (.iload 4, 2) := by decide +kernel
theorem dL_law__665 : decode code 665 = .ok (.iconst 2, 1) := by decide +kernel
theorem dL_law__666 : decode code 666 = .ok (.iadd, 1) := by decide +kernel
theorem dL_law__667 : decode code 667 = .ok (.iaload, 1) := by decide +kernel
theorem dL_law__668 : decode code 668 = .ok (.aload_n 3, 1) := by decide +kernel
theorem dL_law__669 : decode code 669 = .ok (.invokestatic 153, 3) := by decide +kernel
theorem dL_law__672 : decode code 672 = .ok (.istore 5, 2) := by decide +kernel
theorem dL_law__674 : decode code 674 = .ok (.aload_n 2, 1) := by decide +kernel
theorem dL_law__675 : decode code 675 = .ok (.aload_n 0, 1) := by decide +kernel
theorem dL_law__676 : decode code 676 = .ok (.iload 4, 2) := by decide +kernel
theorem dL_law__678 : decode code 678 = .ok (.iconst 1, 1) := by decide +kernel
theorem dL_law__679 : decode code 679 = .ok (.iadd, 1) := by decide +kernel
theorem dL_law__680 : decode code 680 = .ok (.iaload, 1) := by decide +kernel
theorem dL_law__681 : decode code 681 = .ok (.aload_n 0, 1) := by decide +kernel
theorem dL_law__682 : decode code 682 = .ok (.iload 4, 2) := by decide +kernel
theorem dL_law__684 : decode code 684 = .ok (.iconst 2, 1) := by decide +kernel
theorem dL_law__685 : decode code 685 = .ok (.iadd, 1) := by decide +kernel
theorem dL_law__686 : decode code 686 = .ok (.iaload, 1) := by decide +kernel
theorem dL_law__687 : decode code 687 = .ok (.invokevirtual 155, 3) := by decide +kernel
theorem dL_law__690 : decode code 690 = .ok (.istore 6, 2) := by decide +kernel
theorem dL_law__692 : decode code 692 = .ok (.aload_n 2, 1) := by decide +kernel
theorem dL_law__693 : decode code 693 = .ok (.invokevirtual 125, 3) := by decide +kernel
theorem dL_law__696 : decode code 696 = .ok (.iload 5, 2) := by decide +kernel
theorem dL_law__698 : decode code 698 = .ok (.if_icmp .eq 5, 3) := by decide +kernel
theorem dL_law__703 : decode code 703 = .ok (.iload 5, 2) := by decide +kernel
theorem dL_law__705 : decode code 705 = .ok (.ifCond .ne 15, 3) := by decide +kernel
theorem dL_law__708 : decode code 708 = .ok (.aload_n 3, 1) := by decide +kernel
theorem dL_law__709 : decode code 709 = .ok (.iconst 0, 1) := by decide +kernel
theorem dL_law__710 : decode code 710 = .ok (.laload, 1) := by decide +kernel
theorem dL_law__711 : decode code 711 = .ok (.iload 6, 2) := by decide +kernel
theorem dL_law__713 : decode code 713 = .ok (.i2l, 1) := by decide +kernel
theorem dL_law__714 : decode code 714 = .ok (.lcmp, 1) := by decide +kernel
theorem dL_law__715 : decode code 715 = .ok (.ifCond .eq 5, 3) := by decide +kernel
theorem dL_law__720 : decode code 720 = .ok (.goto 1771, 3) := by decide +kernel
theorem dL_law__723 : decode code 723 = .ok (.aload_n 1, 1) := by decide +kernel
theorem dL_law__724 : decode code 724 = .ok (.aload_n 0, 1) := by decide +kernel
theorem dL_law__725 : decode code 725 = .ok (.iload 4, 2) := by decide +kernel
theorem dL_law__727 : decode code 727 = .ok (.iconst 1, 1) := by decide +kernel
theorem dL_law__728 : decode code 728 = .ok (.iadd, 1) := by decide +kernel
theorem dL_law__729 : decode code 729 = .ok (.iaload, 1) := by decide +kernel
theorem dL_law__730 : decode code 730 = .ok (.aload_n 0, 1) := by decide +kernel
theorem dL_law__731 : decode code 731 = .ok (.iload 4, 2) := by decide +kernel
theorem dL_law__733 : decode code 733 = .ok (.iconst 2, 1) := by decide +kernel
theorem dL_law__734 : decode code 734 = .ok (.iadd, 1) := by decide +kernel
theorem dL_law__735 : decode code 735 = .ok (.iaload, 1) := by decide +kernel
theorem dL_law__736 : decode code 736 = .ok (.aload_n 3, 1) := by decide +kernel
theorem dL_law__737 : decode code 737 = .ok (.invokestatic 156, 3) := by decide +kernel
theorem dL_law__740 : decode code 740 = .ok (.istore 5, 2) := by decide +kernel
theorem dL_law__742 : decode code 742 = .ok (.aload_n 2, 1) := by decide +kernel
theorem dL_law__743 : decode code 743 = .ok (.aload_n 0, 1) := by decide +kernel
theorem dL_law__744 : decode code 744 = .ok (.iload 4, 2) := by decide +kernel
theorem dL_law__746 : decode code 746 = .ok (.iconst 1, 1) := by decide +kernel
theorem dL_law__747 : decode code 747 = .ok (.iadd, 1) := by decide +kernel
theorem dL_law__748 : decode code 748 = .ok (.iaload, 1) := by decide +kernel
theorem dL_law__749 : decode code 749 = .ok (.aload_n 0, 1) := by decide +kernel
theorem dL_law__750 : decode code 750 = .ok (.iload 4, 2) := by decide +kernel
theorem dL_law__752 : decode code 752 = .ok (.iconst 2, 1) := by decide +kernel
theorem dL_law__753 : decode code 753 = .ok (.iadd, 1) := by decide +kernel
theorem dL_law__754 : decode code 754 = .ok (.iaload, 1) := by decide +kernel
theorem dL_law__755 : decode code 755 = .ok (.invokevirtual 158, 3) := by decide +kernel
theorem dL_law__758 : decode code 758 = .ok (.istore 6, 2) := by decide +kernel
theorem dL_law__760 : decode code 760 = .ok (.aload_n 2, 1) := by decide +kernel
theorem dL_law__761 : decode code 761 = .ok (.invokevirtual 125, 3) := by decide +kernel
theorem dL_law__764 : decode code 764 = .ok (.iload 5, 2) := by decide +kernel
theorem dL_law__766 : decode code 766 = .ok (.if_icmp .eq 5, 3) := by decide +kernel
theorem dL_law__771 : decode code 771 = .ok (.iload 5, 2) := by decide +kernel
theorem dL_law__773 : decode code 773 = .ok (.ifCond .ne 15, 3) := by decide +kernel
theorem dL_law__776 : decode code 776 = .ok (.aload_n 3, 1) := by decide +kernel
theorem dL_law__777 : decode code 777 = .ok (.iconst 0, 1) := by decide +kernel
theorem dL_law__778 : decode code 778 = .ok (.laload, 1) := by decide +kernel
theorem dL_law__779 : decode code 779 = .ok (.iload 6, 2) := by decide +kernel
theorem dL_law__781 : decode code 781 = .ok (.i2l, 1) := by decide +kernel
theorem dL_law__782 : decode code 782 = .ok (.lcmp, 1) := by decide +kernel
theorem dL_law__783 : decode code 783 = .ok (.ifCond .eq 5, 3) := by decide +kernel
theorem dL_law__788 : decode code 788 = .ok (.goto 1703, 3) := by decide +kernel
theorem dL_law__791 : decode code 791 = .ok (.aload_n 1, 1) := by decide +kernel
theorem dL_law__792 : decode code 792 = .ok (.aload_n 0, 1) := by decide +kernel
theorem dL_law__793 : decode code 793 = .ok (.iload 4, 2) := by decide +kernel
theorem dL_law__795 : decode code 795 = .ok (.iconst 1, 1) := by decide +kernel
theorem dL_law__796 : decode code 796 = .ok (.iadd, 1) := by decide +kernel
theorem dL_law__797 : decode code 797 = .ok (.iaload, 1) := by decide +kernel
theorem dL_law__798 : decode code 798 = .ok (.aload_n 0, 1) := by decide +kernel
theorem dL_law__799 : decode code 799 = .ok (.iload 4, 2) := by decide +kernel
theorem dL_law__801 : decode code 801 = .ok (.iconst 2, 1) := by decide +kernel
theorem dL_law__802 : decode code 802 = .ok (.iadd, 1) := by decide +kernel
theorem dL_law__803 : decode code 803 = .ok (.iaload, 1) := by decide +kernel
theorem dL_law__804 : decode code 804 = .ok (.aload_n 3, 1) := by decide +kernel
theorem dL_law__805 : decode code 805 = .ok (.invokestatic 159, 3) := by decide +kernel
theorem dL_law__808 : decode code 808 = .ok (.istore 5, 2) := by decide +kernel
theorem dL_law__810 : decode code 810 = .ok (.aload_n 2, 1) := by decide +kernel
theorem dL_law__811 : decode code 811 = .ok (.aload_n 0, 1) := by decide +kernel
theorem dL_law__812 : decode code 812 = .ok (.iload 4, 2) := by decide +kernel
theorem dL_law__814 : decode code 814 = .ok (.iconst 1, 1) := by decide +kernel
theorem dL_law__815 : decode code 815 = .ok (.iadd, 1) := by decide +kernel
theorem dL_law__816 : decode code 816 = .ok (.iaload, 1) := by decide +kernel
theorem dL_law__817 : decode code 817 = .ok (.aload_n 0, 1) := by decide +kernel
theorem dL_law__818 : decode code 818 = .ok (.iload 4, 2) := by decide +kernel
theorem dL_law__820 : decode code 820 = .ok (.iconst 2, 1) := by decide +kernel
theorem dL_law__821 : decode code 821 = .ok (.iadd, 1) := by decide +kernel
theorem dL_law__822 : decode code 822 = .ok (.iaload, 1) := by decide +kernel
theorem dL_law__823 : decode code 823 = .ok (.invokevirtual 161, 3) := by decide +kernel
theorem dL_law__826 : decode code 826 = .ok (.istore 6, 2) := by decide +kernel
theorem dL_law__828 : decode code 828 = .ok (.aload_n 2, 1) := by decide +kernel
theorem dL_law__829 : decode code 829 = .ok (.invokevirtual 125, 3) := by decide +kernel
theorem dL_law__832 : decode code 832 = .ok (.iload 5, 2) := by decide +kernel
theorem dL_law__834 : decode code 834 = .ok (.if_icmp .eq 5, 3) := by decide +kernel
theorem dL_law__839 : decode code 839 = .ok (.iload 5, 2) := by decide +kernel
theorem dL_law__841 : decode code 841 = .ok (.ifCond .ne 15, 3) := by decide +kernel
theorem dL_law__844 : decode code 844 = .ok (.aload_n 3, 1) := by decide +kernel
theorem dL_law__845 : decode code 845 = .ok (.iconst 0, 1) := by decide +kernel
theorem dL_law__846 : decode code 846 = .ok (.laload, 1) := by decide +kernel
theorem dL_law__847 : decode code 847 = .ok (.iload 6, 2) := by decide +kernel
theorem dL_law__849 : decode code 849 = .ok (.i2l, 1) := by decide +kernel
theorem dL_law__850 : decode code 850 = .ok (.lcmp, 1) := by decide +kernel
theorem dL_law__851 : decode code 851 = .ok (.ifCond .eq 5, 3) := by decide +kernel
theorem dL_law__856 : decode code 856 = .ok (.goto 1635, 3) := by decide +kernel
theorem dL_law__859 : decode code 859 = .ok (.aload_n 1, 1) := by decide +kernel
theorem dL_law__860 : decode code 860 = .ok (.aload_n 0, 1) := by decide +kernel
theorem dL_law__861 : decode code 861 = .ok (.iload 4, 2) := by decide +kernel
theorem dL_law__863 : decode code 863 = .ok (.iconst 1, 1) := by decide +kernel
theorem dL_law__864 : decode code 864 = .ok (.iadd, 1) := by decide +kernel
theorem dL_law__865 : decode code 865 = .ok (.iaload, 1) := by decide +kernel
theorem dL_law__866 : decode code 866 = .ok (.aload_n 0, 1) := by decide +kernel
theorem dL_law__867 : decode code 867 = .ok (.iload 4, 2) := by decide +kernel
theorem dL_law__869 : decode code 869 = .ok (.iconst 2, 1) := by decide +kernel
theorem dL_law__870 : decode code 870 = .ok (.iadd, 1) := by decide +kernel
theorem dL_law__871 : decode code 871 = .ok (.iaload, 1) := by decide +kernel
theorem dL_law__872 : decode code 872 = .ok (.aload_n 3, 1) := by decide +kernel
theorem dL_law__873 : decode code 873 = .ok (.invokestatic 162, 3) := by decide +kernel
theorem dL_law__876 : decode code 876 = .ok (.istore 5, 2) := by decide +kernel
theorem dL_law__878 : decode code 878 = .ok (.aload_n 2, 1) := by decide +kernel
theorem dL_law__879 : decode code 879 = .ok (.aload_n 0, 1) := by decide +kernel
