/-! the cells in classes, and what they hold -/
set_option maxRecDepth 100000 in
def rcT (n : Nat) : Nat := (bif Nat.blt n 492 then (bif Nat.blt n 308 then (bif Nat.blt n 216 then (bif Nat.blt n 112 then (bif Nat.blt n 31 then (bif Nat.blt n 11 then (bif Nat.blt n 5 then (bif Nat.blt n 2 then (bif Nat.blt n 1 then 1 else 2) else (bif Nat.blt n 3 then 3 else (bif Nat.blt n 4 then 4 else 5))) else (bif Nat.blt n 8 then (bif Nat.blt n 6 then 6 else (bif Nat.blt n 7 then 7 else 8)) else (bif Nat.blt n 9 then 9 else (bif Nat.blt n 10 then 10 else 11)))) else (bif Nat.blt n 20 then (bif Nat.blt n 14 then (bif Nat.blt n 12 then 12 else (bif Nat.blt n 13 then 13 else 14)) else (bif Nat.blt n 18 then 15 else (bif Nat.blt n 19 then 16 else 17))) else (bif Nat.blt n 28 then (bif Nat.blt n 21 then 18 else (bif Nat.blt n 27 then 19 else 20)) else (bif Nat.blt n 29 then 21 else (bif Nat.blt n 30 then 22 else 23))))) else (bif Nat.blt n 59 then (bif Nat.blt n 36 then (bif Nat.blt n 33 then (bif Nat.blt n 32 then 24 else 25) else (bif Nat.blt n 34 then 26 else (bif Nat.blt n 35 then 27 else 28))) else (bif Nat.blt n 46 then (bif Nat.blt n 37 then 29 else (bif Nat.blt n 45 then 30 else 31)) else (bif Nat.blt n 50 then 32 else (bif Nat.blt n 51 then 33 else 34)))) else (bif Nat.blt n 73 then (bif Nat.blt n 67 then (bif Nat.blt n 60 then 35 else (bif Nat.blt n 66 then 36 else 37)) else (bif Nat.blt n 71 then 38 else (bif Nat.blt n 72 then 39 else 40))) else (bif Nat.blt n 87 then (bif Nat.blt n 74 then 41 else (bif Nat.blt n 86 then 42 else 43)) else (bif Nat.blt n 99 then 44 else (bif Nat.blt n 100 then 45 else 46)))))) else (bif Nat.blt n 193 then (bif Nat.blt n 166 then (bif Nat.blt n 117 then (bif Nat.blt n 114 then (bif Nat.blt n 113 then 47 else 48) else (bif Nat.blt n 115 then 49 else (bif Nat.blt n 116 then 50 else 51))) else (bif Nat.blt n 161 then (bif Nat.blt n 159 then 52 else (bif Nat.blt n 160 then 53 else 54)) else (bif Nat.blt n 162 then 55 else (bif Nat.blt n 163 then 56 else 57)))) else (bif Nat.blt n 180 then (bif Nat.blt n 169 then (bif Nat.blt n 167 then 58 else (bif Nat.blt n 168 then 59 else 60)) else (bif Nat.blt n 170 then 61 else (bif Nat.blt n 179 then 62 else 63))) else (bif Nat.blt n 183 then (bif Nat.blt n 181 then 64 else (bif Nat.blt n 182 then 65 else 66)) else (bif Nat.blt n 191 then 67 else (bif Nat.blt n 192 then 68 else 69))))) else (bif Nat.blt n 204 then (bif Nat.blt n 198 then (bif Nat.blt n 195 then (bif Nat.blt n 194 then 70 else 71) else (bif Nat.blt n 196 then 72 else (bif Nat.blt n 197 then 73 else 74))) else (bif Nat.blt n 201 then (bif Nat.blt n 199 then 75 else (bif Nat.blt n 200 then 74 else 75)) else (bif Nat.blt n 202 then 74 else (bif Nat.blt n 203 then 75 else 74)))) else (bif Nat.blt n 210 then (bif Nat.blt n 207 then (bif Nat.blt n 205 then 75 else (bif Nat.blt n 206 then 74 else 75)) else (bif Nat.blt n 208 then 74 else (bif Nat.blt n 209 then 75 else 76))) else (bif Nat.blt n 213 then (bif Nat.blt n 211 then 77 else (bif Nat.blt n 212 then 76 else 77)) else (bif Nat.blt n 214 then 76 else (bif Nat.blt n 215 then 77 else 76))))))) else (bif Nat.blt n 262 then (bif Nat.blt n 239 then (bif Nat.blt n 227 then (bif Nat.blt n 221 then (bif Nat.blt n 218 then (bif Nat.blt n 217 then 77 else 76) else (bif Nat.blt n 219 then 77 else (bif Nat.blt n 220 then 76 else 77))) else (bif Nat.blt n 224 then (bif Nat.blt n 222 then 76 else (bif Nat.blt n 223 then 77 else 76)) else (bif Nat.blt n 225 then 77 else (bif Nat.blt n 226 then 76 else 77)))) else (bif Nat.blt n 233 then (bif Nat.blt n 230 then (bif Nat.blt n 228 then 76 else (bif Nat.blt n 229 then 77 else 76)) else (bif Nat.blt n 231 then 77 else (bif Nat.blt n 232 then 76 else 77))) else (bif Nat.blt n 236 then (bif Nat.blt n 234 then 76 else (bif Nat.blt n 235 then 77 else 76)) else (bif Nat.blt n 237 then 77 else (bif Nat.blt n 238 then 76 else 77))))) else (bif Nat.blt n 250 then (bif Nat.blt n 244 then (bif Nat.blt n 241 then (bif Nat.blt n 240 then 76 else 77) else (bif Nat.blt n 242 then 76 else (bif Nat.blt n 243 then 77 else 76))) else (bif Nat.blt n 247 then (bif Nat.blt n 245 then 77 else (bif Nat.blt n 246 then 76 else 77)) else (bif Nat.blt n 248 then 76 else (bif Nat.blt n 249 then 77 else 76)))) else (bif Nat.blt n 256 then (bif Nat.blt n 253 then (bif Nat.blt n 251 then 77 else (bif Nat.blt n 252 then 76 else 77)) else (bif Nat.blt n 254 then 76 else (bif Nat.blt n 255 then 77 else 76))) else (bif Nat.blt n 259 then (bif Nat.blt n 257 then 77 else (bif Nat.blt n 258 then 76 else 77)) else (bif Nat.blt n 260 then 76 else (bif Nat.blt n 261 then 77 else 76)))))) else (bif Nat.blt n 285 then (bif Nat.blt n 273 then (bif Nat.blt n 267 then (bif Nat.blt n 264 then (bif Nat.blt n 263 then 77 else 76) else (bif Nat.blt n 265 then 77 else (bif Nat.blt n 266 then 76 else 77))) else (bif Nat.blt n 270 then (bif Nat.blt n 268 then 76 else (bif Nat.blt n 269 then 77 else 76)) else (bif Nat.blt n 271 then 77 else (bif Nat.blt n 272 then 76 else 77)))) else (bif Nat.blt n 279 then (bif Nat.blt n 276 then (bif Nat.blt n 274 then 76 else (bif Nat.blt n 275 then 77 else 76)) else (bif Nat.blt n 277 then 77 else (bif Nat.blt n 278 then 76 else 77))) else (bif Nat.blt n 282 then (bif Nat.blt n 280 then 76 else (bif Nat.blt n 281 then 77 else 76)) else (bif Nat.blt n 283 then 77 else (bif Nat.blt n 284 then 76 else 77))))) else (bif Nat.blt n 296 then (bif Nat.blt n 290 then (bif Nat.blt n 287 then (bif Nat.blt n 286 then 76 else 77) else (bif Nat.blt n 288 then 76 else (bif Nat.blt n 289 then 77 else 76))) else (bif Nat.blt n 293 then (bif Nat.blt n 291 then 77 else (bif Nat.blt n 292 then 76 else 77)) else (bif Nat.blt n 294 then 76 else (bif Nat.blt n 295 then 77 else 76)))) else (bif Nat.blt n 302 then (bif Nat.blt n 299 then (bif Nat.blt n 297 then 77 else (bif Nat.blt n 298 then 76 else 77)) else (bif Nat.blt n 300 then 76 else (bif Nat.blt n 301 then 77 else 76))) else (bif Nat.blt n 305 then (bif Nat.blt n 303 then 77 else (bif Nat.blt n 304 then 76 else 77)) else (bif Nat.blt n 306 then 76 else (bif Nat.blt n 307 then 77 else 76)))))))) else (bif Nat.blt n 400 then (bif Nat.blt n 354 then (bif Nat.blt n 331 then (bif Nat.blt n 319 then (bif Nat.blt n 313 then (bif Nat.blt n 310 then (bif Nat.blt n 309 then 77 else 76) else (bif Nat.blt n 311 then 77 else (bif Nat.blt n 312 then 76 else 77))) else (bif Nat.blt n 316 then (bif Nat.blt n 314 then 76 else (bif Nat.blt n 315 then 77 else 76)) else (bif Nat.blt n 317 then 77 else (bif Nat.blt n 318 then 76 else 77)))) else (bif Nat.blt n 325 then (bif Nat.blt n 322 then (bif Nat.blt n 320 then 76 else (bif Nat.blt n 321 then 77 else 76)) else (bif Nat.blt n 323 then 77 else (bif Nat.blt n 324 then 76 else 77))) else (bif Nat.blt n 328 then (bif Nat.blt n 326 then 76 else (bif Nat.blt n 327 then 77 else 76)) else (bif Nat.blt n 329 then 77 else (bif Nat.blt n 330 then 76 else 77))))) else (bif Nat.blt n 342 then (bif Nat.blt n 336 then (bif Nat.blt n 333 then (bif Nat.blt n 332 then 76 else 77) else (bif Nat.blt n 334 then 76 else (bif Nat.blt n 335 then 77 else 76))) else (bif Nat.blt n 339 then (bif Nat.blt n 337 then 77 else (bif Nat.blt n 338 then 76 else 77)) else (bif Nat.blt n 340 then 76 else (bif Nat.blt n 341 then 77 else 76)))) else (bif Nat.blt n 348 then (bif Nat.blt n 345 then (bif Nat.blt n 343 then 77 else (bif Nat.blt n 344 then 76 else 77)) else (bif Nat.blt n 346 then 76 else (bif Nat.blt n 347 then 77 else 76))) else (bif Nat.blt n 351 then (bif Nat.blt n 349 then 77 else (bif Nat.blt n 350 then 76 else 77)) else (bif Nat.blt n 352 then 76 else (bif Nat.blt n 353 then 77 else 76)))))) else (bif Nat.blt n 377 then (bif Nat.blt n 365 then (bif Nat.blt n 359 then (bif Nat.blt n 356 then (bif Nat.blt n 355 then 77 else 76) else (bif Nat.blt n 357 then 77 else (bif Nat.blt n 358 then 76 else 77))) else (bif Nat.blt n 362 then (bif Nat.blt n 360 then 76 else (bif Nat.blt n 361 then 77 else 76)) else (bif Nat.blt n 363 then 77 else (bif Nat.blt n 364 then 76 else 77)))) else (bif Nat.blt n 371 then (bif Nat.blt n 368 then (bif Nat.blt n 366 then 76 else (bif Nat.blt n 367 then 77 else 76)) else (bif Nat.blt n 369 then 77 else (bif Nat.blt n 370 then 76 else 77))) else (bif Nat.blt n 374 then (bif Nat.blt n 372 then 76 else (bif Nat.blt n 373 then 77 else 76)) else (bif Nat.blt n 375 then 77 else (bif Nat.blt n 376 then 76 else 77))))) else (bif Nat.blt n 388 then (bif Nat.blt n 382 then (bif Nat.blt n 379 then (bif Nat.blt n 378 then 76 else 77) else (bif Nat.blt n 380 then 76 else (bif Nat.blt n 381 then 77 else 76))) else (bif Nat.blt n 385 then (bif Nat.blt n 383 then 77 else (bif Nat.blt n 384 then 76 else 77)) else (bif Nat.blt n 386 then 76 else (bif Nat.blt n 387 then 77 else 76)))) else (bif Nat.blt n 394 then (bif Nat.blt n 391 then (bif Nat.blt n 389 then 77 else (bif Nat.blt n 390 then 76 else 77)) else (bif Nat.blt n 392 then 76 else (bif Nat.blt n 393 then 77 else 76))) else (bif Nat.blt n 397 then (bif Nat.blt n 395 then 77 else (bif Nat.blt n 396 then 76 else 77)) else (bif Nat.blt n 398 then 76 else (bif Nat.blt n 399 then 77 else 76))))))) else (bif Nat.blt n 446 then (bif Nat.blt n 423 then (bif Nat.blt n 411 then (bif Nat.blt n 405 then (bif Nat.blt n 402 then (bif Nat.blt n 401 then 77 else 76) else (bif Nat.blt n 403 then 77 else (bif Nat.blt n 404 then 76 else 77))) else (bif Nat.blt n 408 then (bif Nat.blt n 406 then 76 else (bif Nat.blt n 407 then 77 else 76)) else (bif Nat.blt n 409 then 77 else (bif Nat.blt n 410 then 76 else 77)))) else (bif Nat.blt n 417 then (bif Nat.blt n 414 then (bif Nat.blt n 412 then 76 else (bif Nat.blt n 413 then 77 else 76)) else (bif Nat.blt n 415 then 77 else (bif Nat.blt n 416 then 76 else 77))) else (bif Nat.blt n 420 then (bif Nat.blt n 418 then 76 else (bif Nat.blt n 419 then 77 else 76)) else (bif Nat.blt n 421 then 77 else (bif Nat.blt n 422 then 76 else 77))))) else (bif Nat.blt n 434 then (bif Nat.blt n 428 then (bif Nat.blt n 425 then (bif Nat.blt n 424 then 76 else 77) else (bif Nat.blt n 426 then 76 else (bif Nat.blt n 427 then 77 else 76))) else (bif Nat.blt n 431 then (bif Nat.blt n 429 then 77 else (bif Nat.blt n 430 then 76 else 77)) else (bif Nat.blt n 432 then 76 else (bif Nat.blt n 433 then 77 else 76)))) else (bif Nat.blt n 440 then (bif Nat.blt n 437 then (bif Nat.blt n 435 then 77 else (bif Nat.blt n 436 then 76 else 77)) else (bif Nat.blt n 438 then 76 else (bif Nat.blt n 439 then 77 else 76))) else (bif Nat.blt n 443 then (bif Nat.blt n 441 then 77 else (bif Nat.blt n 442 then 76 else 77)) else (bif Nat.blt n 444 then 76 else (bif Nat.blt n 445 then 77 else 76)))))) else (bif Nat.blt n 469 then (bif Nat.blt n 457 then (bif Nat.blt n 451 then (bif Nat.blt n 448 then (bif Nat.blt n 447 then 77 else 76) else (bif Nat.blt n 449 then 77 else (bif Nat.blt n 450 then 76 else 77))) else (bif Nat.blt n 454 then (bif Nat.blt n 452 then 76 else (bif Nat.blt n 453 then 77 else 76)) else (bif Nat.blt n 455 then 77 else (bif Nat.blt n 456 then 76 else 77)))) else (bif Nat.blt n 463 then (bif Nat.blt n 460 then (bif Nat.blt n 458 then 76 else (bif Nat.blt n 459 then 77 else 76)) else (bif Nat.blt n 461 then 77 else (bif Nat.blt n 462 then 76 else 77))) else (bif Nat.blt n 466 then (bif Nat.blt n 464 then 76 else (bif Nat.blt n 465 then 77 else 78)) else (bif Nat.blt n 467 then 79 else (bif Nat.blt n 468 then 78 else 79))))) else (bif Nat.blt n 480 then (bif Nat.blt n 474 then (bif Nat.blt n 471 then (bif Nat.blt n 470 then 78 else 79) else (bif Nat.blt n 472 then 78 else (bif Nat.blt n 473 then 79 else 78))) else (bif Nat.blt n 477 then (bif Nat.blt n 475 then 79 else (bif Nat.blt n 476 then 78 else 79)) else (bif Nat.blt n 478 then 78 else (bif Nat.blt n 479 then 79 else 78)))) else (bif Nat.blt n 486 then (bif Nat.blt n 483 then (bif Nat.blt n 481 then 79 else (bif Nat.blt n 482 then 78 else 79)) else (bif Nat.blt n 484 then 78 else (bif Nat.blt n 485 then 79 else 78))) else (bif Nat.blt n 489 then (bif Nat.blt n 487 then 79 else (bif Nat.blt n 488 then 78 else 79)) else (bif Nat.blt n 490 then 78 else (bif Nat.blt n 491 then 79 else 74))))))))) else (bif Nat.blt n 2333 then (bif Nat.blt n 622 then (bif Nat.blt n 576 then (bif Nat.blt n 546 then (bif Nat.blt n 503 then (bif Nat.blt n 497 then (bif Nat.blt n 494 then (bif Nat.blt n 493 then 75 else 74) else (bif Nat.blt n 495 then 75 else (bif Nat.blt n 496 then 74 else 75))) else (bif Nat.blt n 500 then (bif Nat.blt n 498 then 74 else (bif Nat.blt n 499 then 75 else 74)) else (bif Nat.blt n 501 then 75 else (bif Nat.blt n 502 then 74 else 75)))) else (bif Nat.blt n 527 then (bif Nat.blt n 519 then (bif Nat.blt n 504 then 80 else (bif Nat.blt n 505 then 81 else 82)) else (bif Nat.blt n 520 then 83 else (bif Nat.blt n 521 then 84 else 85))) else (bif Nat.blt n 535 then (bif Nat.blt n 528 then 86 else (bif Nat.blt n 534 then 87 else 88)) else (bif Nat.blt n 541 then 89 else (bif Nat.blt n 542 then 90 else 91))))) else (bif Nat.blt n 564 then (bif Nat.blt n 558 then (bif Nat.blt n 548 then (bif Nat.blt n 547 then 92 else 93) else (bif Nat.blt n 556 then 94 else (bif Nat.blt n 557 then 95 else 96))) else (bif Nat.blt n 561 then (bif Nat.blt n 559 then 97 else (bif Nat.blt n 560 then 98 else 99)) else (bif Nat.blt n 562 then 100 else (bif Nat.blt n 563 then 101 else 102)))) else (bif Nat.blt n 570 then (bif Nat.blt n 567 then (bif Nat.blt n 565 then 101 else (bif Nat.blt n 566 then 102 else 101)) else (bif Nat.blt n 568 then 102 else (bif Nat.blt n 569 then 101 else 102))) else (bif Nat.blt n 573 then (bif Nat.blt n 571 then 101 else (bif Nat.blt n 572 then 102 else 101)) else (bif Nat.blt n 574 then 102 else (bif Nat.blt n 575 then 101 else 102)))))) else (bif Nat.blt n 599 then (bif Nat.blt n 587 then (bif Nat.blt n 581 then (bif Nat.blt n 578 then (bif Nat.blt n 577 then 101 else 102) else (bif Nat.blt n 579 then 101 else (bif Nat.blt n 580 then 102 else 101))) else (bif Nat.blt n 584 then (bif Nat.blt n 582 then 102 else (bif Nat.blt n 583 then 101 else 102)) else (bif Nat.blt n 585 then 101 else (bif Nat.blt n 586 then 102 else 101)))) else (bif Nat.blt n 593 then (bif Nat.blt n 590 then (bif Nat.blt n 588 then 102 else (bif Nat.blt n 589 then 101 else 102)) else (bif Nat.blt n 591 then 103 else (bif Nat.blt n 592 then 104 else 103))) else (bif Nat.blt n 596 then (bif Nat.blt n 594 then 104 else (bif Nat.blt n 595 then 103 else 104)) else (bif Nat.blt n 597 then 103 else (bif Nat.blt n 598 then 104 else 103))))) else (bif Nat.blt n 610 then (bif Nat.blt n 604 then (bif Nat.blt n 601 then (bif Nat.blt n 600 then 104 else 103) else (bif Nat.blt n 602 then 104 else (bif Nat.blt n 603 then 103 else 104))) else (bif Nat.blt n 607 then (bif Nat.blt n 605 then 103 else (bif Nat.blt n 606 then 104 else 103)) else (bif Nat.blt n 608 then 104 else (bif Nat.blt n 609 then 103 else 104)))) else (bif Nat.blt n 616 then (bif Nat.blt n 613 then (bif Nat.blt n 611 then 103 else (bif Nat.blt n 612 then 104 else 103)) else (bif Nat.blt n 614 then 104 else (bif Nat.blt n 615 then 103 else 104))) else (bif Nat.blt n 619 then (bif Nat.blt n 617 then 103 else (bif Nat.blt n 618 then 104 else 105)) else (bif Nat.blt n 620 then 106 else (bif Nat.blt n 621 then 107 else 108))))))) else (bif Nat.blt n 1316 then (bif Nat.blt n 827 then (bif Nat.blt n 796 then (bif Nat.blt n 783 then (bif Nat.blt n 773 then (bif Nat.blt n 772 then 109 else 110) else (bif Nat.blt n 774 then 111 else (bif Nat.blt n 782 then 112 else 113))) else (bif Nat.blt n 793 then (bif Nat.blt n 791 then 114 else (bif Nat.blt n 792 then 115 else 116)) else (bif Nat.blt n 794 then 117 else (bif Nat.blt n 795 then 118 else 119)))) else (bif Nat.blt n 821 then (bif Nat.blt n 818 then (bif Nat.blt n 816 then 120 else (bif Nat.blt n 817 then 121 else 122)) else (bif Nat.blt n 819 then 123 else (bif Nat.blt n 820 then 124 else 125))) else (bif Nat.blt n 824 then (bif Nat.blt n 822 then 124 else (bif Nat.blt n 823 then 125 else 124)) else (bif Nat.blt n 825 then 125 else (bif Nat.blt n 826 then 124 else 125))))) else (bif Nat.blt n 843 then (bif Nat.blt n 832 then (bif Nat.blt n 829 then (bif Nat.blt n 828 then 124 else 125) else (bif Nat.blt n 830 then 124 else (bif Nat.blt n 831 then 125 else 124))) else (bif Nat.blt n 835 then (bif Nat.blt n 833 then 125 else (bif Nat.blt n 834 then 126 else 127)) else (bif Nat.blt n 836 then 128 else (bif Nat.blt n 842 then 129 else 130)))) else (bif Nat.blt n 852 then (bif Nat.blt n 846 then (bif Nat.blt n 844 then 131 else (bif Nat.blt n 845 then 132 else 133)) else (bif Nat.blt n 850 then 134 else (bif Nat.blt n 851 then 135 else 136))) else (bif Nat.blt n 914 then (bif Nat.blt n 912 then 137 else (bif Nat.blt n 913 then 138 else 139)) else (bif Nat.blt n 915 then 140 else (bif Nat.blt n 916 then 141 else 142)))))) else (bif Nat.blt n 1974 then (bif Nat.blt n 1468 then (bif Nat.blt n 1321 then (bif Nat.blt n 1318 then (bif Nat.blt n 1317 then 143 else 144) else (bif Nat.blt n 1319 then 145 else (bif Nat.blt n 1320 then 146 else 147))) else (bif Nat.blt n 1442 then (bif Nat.blt n 1345 then 148 else (bif Nat.blt n 1346 then 149 else 150)) else (bif Nat.blt n 1443 then 151 else (bif Nat.blt n 1467 then 152 else 153)))) else (bif Nat.blt n 1895 then (bif Nat.blt n 1693 then (bif Nat.blt n 1492 then 154 else (bif Nat.blt n 1493 then 155 else 156)) else (bif Nat.blt n 1694 then 157 else (bif Nat.blt n 1894 then 158 else 159))) else (bif Nat.blt n 1968 then (bif Nat.blt n 1955 then 160 else (bif Nat.blt n 1956 then 161 else 162)) else (bif Nat.blt n 1969 then 163 else (bif Nat.blt n 1970 then 164 else 165))))) else (bif Nat.blt n 2185 then (bif Nat.blt n 1979 then (bif Nat.blt n 1976 then (bif Nat.blt n 1975 then 166 else 167) else (bif Nat.blt n 1977 then 168 else (bif Nat.blt n 1978 then 169 else 170))) else (bif Nat.blt n 1983 then (bif Nat.blt n 1981 then 171 else (bif Nat.blt n 1982 then 172 else 173)) else (bif Nat.blt n 1984 then 174 else (bif Nat.blt n 1985 then 175 else 176)))) else (bif Nat.blt n 2296 then (bif Nat.blt n 2195 then (bif Nat.blt n 2186 then 177 else (bif Nat.blt n 2194 then 178 else 179)) else (bif Nat.blt n 2235 then 180 else (bif Nat.blt n 2236 then 181 else 182))) else (bif Nat.blt n 2318 then (bif Nat.blt n 2297 then 183 else (bif Nat.blt n 2298 then 184 else 185)) else (bif Nat.blt n 2319 then 186 else (bif Nat.blt n 2332 then 187 else 188)))))))) else (bif Nat.blt n 2533 then (bif Nat.blt n 2487 then (bif Nat.blt n 2464 then (bif Nat.blt n 2452 then (bif Nat.blt n 2446 then (bif Nat.blt n 2344 then (bif Nat.blt n 2343 then 189 else 190) else (bif Nat.blt n 2345 then 191 else (bif Nat.blt n 2445 then 192 else 193))) else (bif Nat.blt n 2449 then (bif Nat.blt n 2447 then 194 else (bif Nat.blt n 2448 then 195 else 196)) else (bif Nat.blt n 2450 then 197 else (bif Nat.blt n 2451 then 198 else 199)))) else (bif Nat.blt n 2458 then (bif Nat.blt n 2455 then (bif Nat.blt n 2453 then 200 else (bif Nat.blt n 2454 then 201 else 202)) else (bif Nat.blt n 2456 then 203 else (bif Nat.blt n 2457 then 204 else 205))) else (bif Nat.blt n 2461 then (bif Nat.blt n 2459 then 206 else (bif Nat.blt n 2460 then 207 else 208)) else (bif Nat.blt n 2462 then 209 else (bif Nat.blt n 2463 then 210 else 211))))) else (bif Nat.blt n 2475 then (bif Nat.blt n 2469 then (bif Nat.blt n 2466 then (bif Nat.blt n 2465 then 212 else 213) else (bif Nat.blt n 2467 then 214 else (bif Nat.blt n 2468 then 215 else 216))) else (bif Nat.blt n 2472 then (bif Nat.blt n 2470 then 217 else (bif Nat.blt n 2471 then 218 else 219)) else (bif Nat.blt n 2473 then 220 else (bif Nat.blt n 2474 then 221 else 222)))) else (bif Nat.blt n 2481 then (bif Nat.blt n 2478 then (bif Nat.blt n 2476 then 223 else (bif Nat.blt n 2477 then 224 else 225)) else (bif Nat.blt n 2479 then 226 else (bif Nat.blt n 2480 then 227 else 228))) else (bif Nat.blt n 2484 then (bif Nat.blt n 2482 then 229 else (bif Nat.blt n 2483 then 230 else 231)) else (bif Nat.blt n 2485 then 232 else (bif Nat.blt n 2486 then 233 else 234)))))) else (bif Nat.blt n 2510 then (bif Nat.blt n 2498 then (bif Nat.blt n 2492 then (bif Nat.blt n 2489 then (bif Nat.blt n 2488 then 235 else 236) else (bif Nat.blt n 2490 then 237 else (bif Nat.blt n 2491 then 238 else 239))) else (bif Nat.blt n 2495 then (bif Nat.blt n 2493 then 240 else (bif Nat.blt n 2494 then 241 else 242)) else (bif Nat.blt n 2496 then 243 else (bif Nat.blt n 2497 then 244 else 245)))) else (bif Nat.blt n 2504 then (bif Nat.blt n 2501 then (bif Nat.blt n 2499 then 246 else (bif Nat.blt n 2500 then 247 else 248)) else (bif Nat.blt n 2502 then 249 else (bif Nat.blt n 2503 then 250 else 251))) else (bif Nat.blt n 2507 then (bif Nat.blt n 2505 then 252 else (bif Nat.blt n 2506 then 253 else 254)) else (bif Nat.blt n 2508 then 255 else (bif Nat.blt n 2509 then 256 else 257))))) else (bif Nat.blt n 2521 then (bif Nat.blt n 2515 then (bif Nat.blt n 2512 then (bif Nat.blt n 2511 then 258 else 259) else (bif Nat.blt n 2513 then 260 else (bif Nat.blt n 2514 then 261 else 262))) else (bif Nat.blt n 2518 then (bif Nat.blt n 2516 then 263 else (bif Nat.blt n 2517 then 264 else 265)) else (bif Nat.blt n 2519 then 266 else (bif Nat.blt n 2520 then 267 else 268)))) else (bif Nat.blt n 2527 then (bif Nat.blt n 2524 then (bif Nat.blt n 2522 then 269 else (bif Nat.blt n 2523 then 270 else 271)) else (bif Nat.blt n 2525 then 272 else (bif Nat.blt n 2526 then 273 else 274))) else (bif Nat.blt n 2530 then (bif Nat.blt n 2528 then 275 else (bif Nat.blt n 2529 then 276 else 277)) else (bif Nat.blt n 2531 then 278 else (bif Nat.blt n 2532 then 279 else 280))))))) else (bif Nat.blt n 2581 then (bif Nat.blt n 2558 then (bif Nat.blt n 2544 then (bif Nat.blt n 2538 then (bif Nat.blt n 2535 then (bif Nat.blt n 2534 then 281 else 282) else (bif Nat.blt n 2536 then 283 else (bif Nat.blt n 2537 then 284 else 285))) else (bif Nat.blt n 2541 then (bif Nat.blt n 2539 then 286 else (bif Nat.blt n 2540 then 287 else 288)) else (bif Nat.blt n 2542 then 289 else (bif Nat.blt n 2543 then 290 else 291)))) else (bif Nat.blt n 2552 then (bif Nat.blt n 2547 then (bif Nat.blt n 2545 then 292 else (bif Nat.blt n 2546 then 293 else 294)) else (bif Nat.blt n 2550 then 295 else (bif Nat.blt n 2551 then 296 else 297))) else (bif Nat.blt n 2555 then (bif Nat.blt n 2553 then 298 else (bif Nat.blt n 2554 then 299 else 300)) else (bif Nat.blt n 2556 then 301 else (bif Nat.blt n 2557 then 302 else 303))))) else (bif Nat.blt n 2569 then (bif Nat.blt n 2563 then (bif Nat.blt n 2560 then (bif Nat.blt n 2559 then 304 else 305) else (bif Nat.blt n 2561 then 306 else (bif Nat.blt n 2562 then 307 else 308))) else (bif Nat.blt n 2566 then (bif Nat.blt n 2564 then 309 else (bif Nat.blt n 2565 then 310 else 311)) else (bif Nat.blt n 2567 then 312 else (bif Nat.blt n 2568 then 313 else 314)))) else (bif Nat.blt n 2575 then (bif Nat.blt n 2572 then (bif Nat.blt n 2570 then 315 else (bif Nat.blt n 2571 then 316 else 317)) else (bif Nat.blt n 2573 then 318 else (bif Nat.blt n 2574 then 319 else 320))) else (bif Nat.blt n 2578 then (bif Nat.blt n 2576 then 321 else (bif Nat.blt n 2577 then 322 else 323)) else (bif Nat.blt n 2579 then 324 else (bif Nat.blt n 2580 then 325 else 326)))))) else (bif Nat.blt n 2604 then (bif Nat.blt n 2592 then (bif Nat.blt n 2586 then (bif Nat.blt n 2583 then (bif Nat.blt n 2582 then 327 else 328) else (bif Nat.blt n 2584 then 329 else (bif Nat.blt n 2585 then 330 else 331))) else (bif Nat.blt n 2589 then (bif Nat.blt n 2587 then 332 else (bif Nat.blt n 2588 then 333 else 334)) else (bif Nat.blt n 2590 then 335 else (bif Nat.blt n 2591 then 336 else 337)))) else (bif Nat.blt n 2598 then (bif Nat.blt n 2595 then (bif Nat.blt n 2593 then 338 else (bif Nat.blt n 2594 then 339 else 340)) else (bif Nat.blt n 2596 then 341 else (bif Nat.blt n 2597 then 342 else 343))) else (bif Nat.blt n 2601 then (bif Nat.blt n 2599 then 344 else (bif Nat.blt n 2600 then 345 else 346)) else (bif Nat.blt n 2602 then 347 else (bif Nat.blt n 2603 then 348 else 349))))) else (bif Nat.blt n 2616 then (bif Nat.blt n 2610 then (bif Nat.blt n 2607 then (bif Nat.blt n 2605 then 350 else (bif Nat.blt n 2606 then 351 else 352)) else (bif Nat.blt n 2608 then 353 else (bif Nat.blt n 2609 then 354 else 355))) else (bif Nat.blt n 2613 then (bif Nat.blt n 2611 then 356 else (bif Nat.blt n 2612 then 357 else 358)) else (bif Nat.blt n 2614 then 359 else (bif Nat.blt n 2615 then 360 else 361)))) else (bif Nat.blt n 2622 then (bif Nat.blt n 2619 then (bif Nat.blt n 2617 then 362 else (bif Nat.blt n 2618 then 363 else 364)) else (bif Nat.blt n 2620 then 365 else (bif Nat.blt n 2621 then 366 else 367))) else (bif Nat.blt n 2625 then (bif Nat.blt n 2623 then 368 else (bif Nat.blt n 2624 then 369 else 370)) else (bif Nat.blt n 2626 then 371 else (bif Nat.blt n 2627 then 372 else 373))))))))))
/-- script -/
def sp1 : Nat × Nat × Sg := (0, 0, [])
/-- DX -/
def sp2 : Nat × Nat × Sg := (0, 16, [(16, ((Int.negSucc 1), (Int.ofNat 2), 0))])
/-- DY -/
def sp3 : Nat × Nat × Sg := (0, 16, [(16, ((Int.negSucc 1), (Int.ofNat 2), 0))])
/-- LENGTH -/
def sp4 : Nat × Nat × Sg := (0, 16, [(16, ((Int.ofNat 10), (Int.ofNat 22), 0))])
/-- cell4 -/
def sp5 : Nat × Nat × Sg := (27, 0, [(1, ((Int.ofNat 5), (Int.ofNat 5), 6)), (2, ((Int.ofNat 34), (Int.ofNat 34), 27)), (3, ((Int.ofNat 161), (Int.ofNat 161), 55)), (4, ((Int.ofNat 503), (Int.ofNat 503), 80)), (5, ((Int.ofNat 618), (Int.ofNat 618), 105)), (6, ((Int.ofNat 833), (Int.ofNat 833), 126)), (7, ((Int.ofNat 1319), (Int.ofNat 1319), 146)), (8, ((Int.ofNat 1982), (Int.ofNat 1982), 173)), (9, ((Int.ofNat 2447), (Int.ofNat 2447), 195)), (10, ((Int.negSucc 2147483647), (Int.ofNat 2147483647), 0))])
/-- RoadHouse.ways -/
def sp6 : Nat × Nat × Sg := (26, 0, [(1, ((Int.ofNat 6), (Int.ofNat 6), 7)), (2, ((Int.ofNat 7), (Int.ofNat 7), 8)), (3, ((Int.ofNat 8), (Int.ofNat 8), 9)), (4, ((Int.ofNat 9), (Int.ofNat 9), 10)), (5, ((Int.ofNat 10), (Int.ofNat 10), 11)), (6, ((Int.ofNat 11), (Int.ofNat 11), 12)), (7, ((Int.ofNat 12), (Int.ofNat 12), 13)), (8, ((Int.ofNat 13), (Int.ofNat 13), 14)), (9, ((Int.ofNat 18), (Int.ofNat 18), 16)), (10, ((Int.ofNat 19), (Int.ofNat 19), 17)), (11, ((Int.ofNat 1), (Int.ofNat 2), 0)), (12, ((Int.ofNat 0), (Int.ofNat 9999), 0)), (13, ((Int.ofNat 0), (Int.ofNat 8), 0)), (14, ((Int.ofNat 20), (Int.ofNat 20), 18)), (15, ((Int.ofNat 0), (Int.ofNat 0), 0)), (16, ((Int.ofNat 0), (Int.ofNat 100000), 0)), (17, ((Int.ofNat 0), (Int.ofNat 1), 0)), (18, ((Int.negSucc 0), (Int.ofNat 0), 0)), (19, ((Int.ofNat 27), (Int.ofNat 27), 20))])
/-- RoadHouse$Way.cost -/
def sp7 : Nat × Nat × Sg := (0, 144, [(144, ((Int.ofNat 0), (Int.ofNat 999), 0))])
/-- RoadHouse$Way.level -/
def sp8 : Nat × Nat × Sg := (0, 144, [(144, ((Int.ofNat 0), (Int.ofNat 9999), 0))])
/-- RoadHouse$Way.barred -/
def sp9 : Nat × Nat × Sg := (2, 144, [(144, ((Int.ofNat 0), (Int.ofNat 1), 0))])
/-- RoadHouse$Way.most -/
def sp10 : Nat × Nat × Sg := (0, 144, [(144, ((Int.ofNat 0), (Int.ofNat 3), 0))])
/-- RoadHouse$Way.cents -/
def sp11 : Nat × Nat × Sg := (0, 144, [(144, ((Int.ofNat 0), (Int.ofNat 9999), 0))])
/-- RoadHouse$Way.zone -/
def sp12 : Nat × Nat × Sg := (0, 144, [(144, ((Int.ofNat 0), (Int.ofNat 7), 0))])
/-- RoadHouse$Way.marks -/
def sp13 : Nat × Nat × Sg := (0, 144, [(144, ((Int.negSucc 2147483647), (Int.ofNat 2147483647), 0))])
/-- RoadHouse$Way.value -/
def sp14 : Nat × Nat × Sg := (6, 4, [(4, ((Int.ofNat 14), (Int.ofNat 17), 15))])
/-- RoadHouse$Way.value[] -/
def sp15 : Nat × Nat × Sg := (0, 144, [(144, ((Int.ofNat 0), (Int.ofNat 999), 0))])
/-- RoadHouse$Way.above -/
def sp16 : Nat × Nat × Sg := (0, 4, [(1, ((Int.ofNat 0), (Int.ofNat 20), 0)), (2, ((Int.ofNat 0), (Int.ofNat 20), 0)), (3, ((Int.ofNat 0), (Int.ofNat 20), 0)), (4, ((Int.ofNat 0), (Int.ofNat 20), 0))])
/-- RoadHouse$Way.below -/
def sp17 : Nat × Nat × Sg := (0, 4, [(1, ((Int.ofNat 1), (Int.ofNat 6), 0)), (2, ((Int.ofNat 1), (Int.ofNat 6), 0)), (3, ((Int.ofNat 1), (Int.ofNat 6), 0)), (4, ((Int.ofNat 1), (Int.ofNat 6), 0))])
/-- RoadHouse$Way.found -/
def sp18 : Nat × Nat × Sg := (6, 6, [(6, ((Int.ofNat 21), (Int.ofNat 26), 19))])
/-- RoadHouse$Way.found[] -/
def sp19 : Nat × Nat × Sg := (0, 1, [(1, ((Int.ofNat 0), (Int.ofNat 0), 0))])
/-- RoadHouse$Way.search -/
def sp20 : Nat × Nat × Sg := (22, 0, [(1, ((Int.ofNat 28), (Int.ofNat 28), 21)), (2, ((Int.ofNat 0), (Int.ofNat 0), 0)), (3, ((Int.ofNat 29), (Int.ofNat 29), 22)), (4, ((Int.ofNat 30), (Int.ofNat 30), 23)), (5, ((Int.ofNat 31), (Int.ofNat 31), 24)), (6, ((Int.ofNat 32), (Int.ofNat 32), 25)), (7, ((Int.ofNat 33), (Int.ofNat 33), 26)), (8, ((Int.ofNat 0), (Int.ofNat 0), 0)), (9, ((Int.negSucc 0), (Int.ofNat 5), 0)), (10, ((Int.ofNat 0), (Int.ofNat 143), 0)), (11, ((Int.ofNat 0), (Int.ofNat 1), 0))])
/-- RoadHouse$Search.shared -/
def sp21 : Nat × Nat × Sg := (2, 144, [(144, ((Int.ofNat 0), (Int.ofNat 0), 0))])
/-- RoadHouse$Search.price -/
def sp22 : Nat × Nat × Sg := (1, 144, [(144, ((Int.ofNat 0), (Int.ofNat 0), 0))])
/-- RoadHouse$Search.cost -/
def sp23 : Nat × Nat × Sg := (1, 1, [(1, ((Int.ofNat 0), (Int.ofNat 0), 0))])
/-- RoadHouse$Search.count -/
def sp24 : Nat × Nat × Sg := (1, 1, [(1, ((Int.ofNat 0), (Int.ofNat 0), 0))])
/-- RoadHouse$Search.heap -/
def sp25 : Nat × Nat × Sg := (0, 1, [(1, ((Int.ofNat 0), (Int.ofNat 0), 0))])
/-- RoadHouse$Search.spot -/
def sp26 : Nat × Nat × Sg := (0, 1, [(1, ((Int.ofNat 0), (Int.ofNat 0), 0))])
/-- RoadHouse.soil -/
def sp27 : Nat × Nat × Sg := (20, 0, [(1, ((Int.ofNat 35), (Int.ofNat 35), 28)), (2, ((Int.ofNat 36), (Int.ofNat 36), 29)), (3, ((Int.ofNat 45), (Int.ofNat 45), 31)), (4, ((Int.ofNat 50), (Int.ofNat 50), 33)), (5, ((Int.ofNat 59), (Int.ofNat 59), 35)), (6, ((Int.ofNat 66), (Int.ofNat 66), 37)), (7, ((Int.ofNat 71), (Int.ofNat 71), 39)), (8, ((Int.ofNat 72), (Int.ofNat 72), 40)), (9, ((Int.ofNat 0), (Int.ofNat 0), 0)), (10, ((Int.ofNat 0), (Int.ofNat 0), 0)), (11, ((Int.ofNat 73), (Int.ofNat 73), 41)), (12, ((Int.ofNat 86), (Int.ofNat 86), 43)), (13, ((Int.ofNat 99), (Int.ofNat 99), 45)), (14, ((Int.ofNat 112), (Int.ofNat 112), 47)), (15, ((Int.ofNat 113), (Int.ofNat 113), 48)), (16, ((Int.ofNat 114), (Int.ofNat 114), 49)), (17, ((Int.ofNat 115), (Int.ofNat 115), 50)), (18, ((Int.ofNat 116), (Int.ofNat 116), 51)), (19, ((Int.ofNat 159), (Int.ofNat 159), 53)), (20, ((Int.ofNat 160), (Int.ofNat 160), 54))])
/-- RoadHouse$Earth.size -/
def sp28 : Nat × Nat × Sg := (0, 4, [(1, ((Int.ofNat 0), (Int.ofNat 8), 0)), (2, ((Int.ofNat 0), (Int.ofNat 4), 0)), (3, ((Int.ofNat 0), (Int.ofNat 8), 0)), (4, ((Int.ofNat 0), (Int.ofNat 6), 0))])
/-- RoadHouse$Earth.cut -/
def sp29 : Nat × Nat × Sg := (6, 8, [(8, ((Int.ofNat 37), (Int.ofNat 44), 30))])
/-- RoadHouse$Earth.cut[] -/
def sp30 : Nat × Nat × Sg := (0, 4, [(1, ((Int.ofNat 0), (Int.ofNat 1000000), 0)), (2, ((Int.ofNat 0), (Int.ofNat 3), 0)), (3, ((Int.ofNat 0), (Int.ofNat 11), 0)), (4, ((Int.ofNat 0), (Int.ofNat 100000), 0))])
/-- RoadHouse$Earth.pit -/
def sp31 : Nat × Nat × Sg := (6, 4, [(4, ((Int.ofNat 46), (Int.ofNat 49), 32))])
/-- RoadHouse$Earth.pit[] -/
def sp32 : Nat × Nat × Sg := (0, 2, [(1, ((Int.ofNat 0), (Int.ofNat 100000), 0)), (2, ((Int.ofNat 0), (Int.ofNat 100000), 0))])
/-- RoadHouse$Earth.fill -/
def sp33 : Nat × Nat × Sg := (6, 8, [(8, ((Int.ofNat 51), (Int.ofNat 58), 34))])
/-- RoadHouse$Earth.fill[] -/
def sp34 : Nat × Nat × Sg := (0, 3, [(1, ((Int.ofNat 0), (Int.ofNat 1000000), 0)), (2, ((Int.ofNat 0), (Int.ofNat 11), 0)), (3, ((Int.ofNat 0), (Int.ofNat 100000), 0))])
/-- RoadHouse$Earth.way -/
def sp35 : Nat × Nat × Sg := (6, 6, [(6, ((Int.ofNat 60), (Int.ofNat 65), 36))])
/-- RoadHouse$Earth.way[] -/
def sp36 : Nat × Nat × Sg := (0, 4, [(1, ((Int.ofNat 0), (Int.ofNat 100000), 0)), (2, ((Int.ofNat 0), (Int.ofNat 100000), 0)), (3, ((Int.ofNat 0), (Int.ofNat 100000), 0)), (4, ((Int.ofNat 0), (Int.ofNat 16777215), 0))])
/-- RoadHouse$Earth.swell -/
def sp37 : Nat × Nat × Sg := (6, 4, [(4, ((Int.ofNat 67), (Int.ofNat 70), 38))])
/-- RoadHouse$Earth.swell[] -/
def sp38 : Nat × Nat × Sg := (0, 2, [(1, ((Int.ofNat 1), (Int.ofNat 1000), 0)), (2, ((Int.ofNat 1), (Int.ofNat 1000), 0))])
/-- RoadHouse$Earth.unfit -/
def sp39 : Nat × Nat × Sg := (0, 4, [(1, ((Int.ofNat 0), (Int.ofNat 16777215), 0)), (2, ((Int.ofNat 0), (Int.ofNat 16777215), 0)), (3, ((Int.ofNat 0), (Int.ofNat 16777215), 0)), (4, ((Int.ofNat 0), (Int.ofNat 16777215), 0))])
/-- RoadHouse$Earth.most -/
def sp40 : Nat × Nat × Sg := (0, 12, [(1, ((Int.negSucc 0), (Int.ofNat 10000000), 0)), (2, ((Int.negSucc 0), (Int.ofNat 10000000), 0)), (3, ((Int.negSucc 0), (Int.ofNat 10000000), 0)), (4, ((Int.negSucc 0), (Int.ofNat 10000000), 0)), (5, ((Int.negSucc 0), (Int.ofNat 10000000), 0)), (6, ((Int.negSucc 0), (Int.ofNat 10000000), 0)), (7, ((Int.negSucc 0), (Int.ofNat 10000000), 0)), (8, ((Int.negSucc 0), (Int.ofNat 10000000), 0)), (9, ((Int.negSucc 0), (Int.ofNat 10000000), 0)), (10, ((Int.negSucc 0), (Int.ofNat 10000000), 0)), (11, ((Int.negSucc 0), (Int.ofNat 10000000), 0)), (12, ((Int.negSucc 0), (Int.ofNat 10000000), 0))])
/-- RoadHouse$Earth.plan -/
def sp41 : Nat × Nat × Sg := (7, 12, [(12, ((Int.ofNat 74), (Int.ofNat 85), 42))])
/-- RoadHouse$Earth.plan[] -/
def sp42 : Nat × Nat × Sg := (1, 8, [(1, ((Int.ofNat 0), (Int.ofNat 0), 0)), (2, ((Int.ofNat 0), (Int.ofNat 0), 0)), (3, ((Int.ofNat 0), (Int.ofNat 0), 0)), (4, ((Int.ofNat 0), (Int.ofNat 0), 0)), (5, ((Int.ofNat 0), (Int.ofNat 0), 0)), (6, ((Int.ofNat 0), (Int.ofNat 0), 0)), (7, ((Int.ofNat 0), (Int.ofNat 0), 0)), (8, ((Int.ofNat 0), (Int.ofNat 0), 0))])
/-- RoadHouse$Earth.flow -/
def sp43 : Nat × Nat × Sg := (7, 12, [(12, ((Int.ofNat 87), (Int.ofNat 98), 44))])
/-- RoadHouse$Earth.flow[] -/
def sp44 : Nat × Nat × Sg := (1, 8, [(1, ((Int.negSucc 9223372036854775807), (Int.ofNat 9223372036854775807), 0)), (2, ((Int.negSucc 9223372036854775807), (Int.ofNat 9223372036854775807), 0)), (3, ((Int.negSucc 9223372036854775807), (Int.ofNat 9223372036854775807), 0)), (4, ((Int.negSucc 9223372036854775807), (Int.ofNat 9223372036854775807), 0)), (5, ((Int.negSucc 9223372036854775807), (Int.ofNat 9223372036854775807), 0)), (6, ((Int.negSucc 9223372036854775807), (Int.ofNat 9223372036854775807), 0)), (7, ((Int.negSucc 9223372036854775807), (Int.ofNat 9223372036854775807), 0)), (8, ((Int.negSucc 9223372036854775807), (Int.ofNat 9223372036854775807), 0))])
/-- RoadHouse$Earth.unit -/
def sp45 : Nat × Nat × Sg := (7, 12, [(12, ((Int.ofNat 100), (Int.ofNat 111), 46))])
/-- RoadHouse$Earth.unit[] -/
def sp46 : Nat × Nat × Sg := (1, 8, [(1, ((Int.negSucc 0), (Int.ofNat 200000), 0)), (2, ((Int.negSucc 0), (Int.ofNat 200000), 0)), (3, ((Int.negSucc 0), (Int.ofNat 200000), 0)), (4, ((Int.negSucc 0), (Int.ofNat 200000), 0)), (5, ((Int.negSucc 0), (Int.ofNat 200000), 0)), (6, ((Int.negSucc 0), (Int.ofNat 200000), 0)), (7, ((Int.negSucc 0), (Int.ofNat 200000), 0)), (8, ((Int.negSucc 0), (Int.ofNat 200000), 0))])
/-- RoadHouse$Earth.used -/
def sp47 : Nat × Nat × Sg := (1, 12, [(1, ((Int.ofNat 0), (Int.ofNat 0), 0)), (2, ((Int.ofNat 0), (Int.ofNat 0), 0)), (3, ((Int.ofNat 0), (Int.ofNat 0), 0)), (4, ((Int.ofNat 0), (Int.ofNat 0), 0)), (5, ((Int.ofNat 0), (Int.ofNat 0), 0)), (6, ((Int.ofNat 0), (Int.ofNat 0), 0)), (7, ((Int.ofNat 0), (Int.ofNat 0), 0)), (8, ((Int.ofNat 0), (Int.ofNat 0), 0)), (9, ((Int.ofNat 0), (Int.ofNat 0), 0)), (10, ((Int.ofNat 0), (Int.ofNat 0), 0)), (11, ((Int.ofNat 0), (Int.ofNat 0), 0)), (12, ((Int.ofNat 0), (Int.ofNat 0), 0))])
/-- RoadHouse$Earth.frozen -/
def sp48 : Nat × Nat × Sg := (0, 12, [(1, ((Int.ofNat 0), (Int.ofNat 16777215), 0)), (2, ((Int.ofNat 0), (Int.ofNat 16777215), 0)), (3, ((Int.ofNat 0), (Int.ofNat 16777215), 0)), (4, ((Int.ofNat 0), (Int.ofNat 16777215), 0)), (5, ((Int.ofNat 0), (Int.ofNat 16777215), 0)), (6, ((Int.ofNat 0), (Int.ofNat 16777215), 0)), (7, ((Int.ofNat 0), (Int.ofNat 16777215), 0)), (8, ((Int.ofNat 0), (Int.ofNat 16777215), 0)), (9, ((Int.ofNat 0), (Int.ofNat 16777215), 0)), (10, ((Int.ofNat 0), (Int.ofNat 16777215), 0)), (11, ((Int.ofNat 0), (Int.ofNat 16777215), 0)), (12, ((Int.ofNat 0), (Int.ofNat 16777215), 0))])
/-- RoadHouse$Earth.far -/
def sp49 : Nat × Nat × Sg := (1, 21, [(21, ((Int.ofNat 0), (Int.ofNat 0), 0))])
/-- RoadHouse$Earth.from -/
def sp50 : Nat × Nat × Sg := (0, 21, [(21, ((Int.ofNat 0), (Int.ofNat 0), 0))])
/-- RoadHouse$Earth.pipe -/
def sp51 : Nat × Nat × Sg := (7, 42, [(42, ((Int.ofNat 117), (Int.ofNat 158), 52))])
/-- RoadHouse$Earth.pipe[] -/
def sp52 : Nat × Nat × Sg := (1, 42, [(42, ((Int.ofNat 0), (Int.ofNat 0), 0))])
/-- RoadHouse$Earth.queue -/
def sp53 : Nat × Nat × Sg := (0, 42, [(42, ((Int.ofNat 0), (Int.ofNat 0), 0))])
/-- RoadHouse$Earth.reached -/
def sp54 : Nat × Nat × Sg := (0, 42, [(42, ((Int.ofNat 0), (Int.ofNat 0), 0))])
/-- RoadHouse.beams -/
def sp55 : Nat × Nat × Sg := (16, 0, [(1, ((Int.ofNat 1), (Int.ofNat 1), 0)), (2, ((Int.ofNat 162), (Int.ofNat 162), 56)), (3, ((Int.ofNat 166), (Int.ofNat 166), 58)), (4, ((Int.ofNat 167), (Int.ofNat 167), 59)), (5, ((Int.ofNat 168), (Int.ofNat 168), 60)), (6, ((Int.ofNat 169), (Int.ofNat 169), 61)), (7, ((Int.ofNat 0), (Int.ofNat 8), 0)), (8, ((Int.ofNat 179), (Int.ofNat 179), 63)), (9, ((Int.ofNat 0), (Int.ofNat 50), 0)), (10, ((Int.ofNat 0), (Int.ofNat 1), 0)), (11, ((Int.ofNat 0), (Int.ofNat 0), 0)), (12, ((Int.ofNat 180), (Int.ofNat 180), 64)), (13, ((Int.ofNat 0), (Int.ofNat 0), 0)), (14, ((Int.ofNat 181), (Int.ofNat 181), 65)), (15, ((Int.ofNat 0), (Int.ofNat 0), 0)), (16, ((Int.ofNat 182), (Int.ofNat 182), 66)), (17, ((Int.ofNat 191), (Int.ofNat 191), 68)), (18, ((Int.ofNat 192), (Int.ofNat 192), 69)), (19, ((Int.ofNat 193), (Int.ofNat 193), 70)), (20, ((Int.ofNat 194), (Int.ofNat 194), 71)), (21, ((Int.ofNat 195), (Int.ofNat 195), 72)), (22, ((Int.ofNat 196), (Int.ofNat 196), 73))])
/-- RoadHouse$Beams.size -/
def sp56 : Nat × Nat × Sg := (6, 3, [(3, ((Int.ofNat 163), (Int.ofNat 165), 57))])
/-- RoadHouse$Beams.size[] -/
def sp57 : Nat × Nat × Sg := (0, 2, [(1, ((Int.ofNat 1), (Int.ofNat 1), 0)), (2, ((Int.ofNat 1), (Int.ofNat 1), 0))])
/-- RoadHouse$Beams.hinged -/
def sp58 : Nat × Nat × Sg := (2, 6, [(6, ((Int.ofNat 0), (Int.ofNat 0), 0))])
/-- RoadHouse$Beams.held -/
def sp59 : Nat × Nat × Sg := (2, 8, [(8, ((Int.ofNat 0), (Int.ofNat 1), 0))])
/-- RoadHouse$Beams.settled -/
def sp60 : Nat × Nat × Sg := (0, 4, [(1, ((Int.negSucc 999), (Int.ofNat 1000), 0)), (2, ((Int.negSucc 999), (Int.ofNat 1000), 0)), (3, ((Int.ofNat 0), (Int.ofNat 0), 0)), (4, ((Int.ofNat 0), (Int.ofNat 0), 0))])
/-- RoadHouse$Beams.row -/
def sp61 : Nat × Nat × Sg := (6, 9, [(9, ((Int.ofNat 170), (Int.ofNat 178), 62))])
/-- RoadHouse$Beams.row[] -/
def sp62 : Nat × Nat × Sg := (0, 3, [(1, ((Int.ofNat 0), (Int.ofNat 3), 0)), (2, ((Int.ofNat 0), (Int.ofNat 1), 0)), (3, ((Int.ofNat 0), (Int.ofNat 4), 0))])
/-- RoadHouse$Beams.text -/
def sp63 : Nat × Nat × Sg := (4, 50, [(50, ((Int.ofNat 0), (Int.ofNat 126), 0))])
/-- RoadHouse$Beams.looseMove -/
def sp64 : Nat × Nat × Sg := (2, 8, [(8, ((Int.ofNat 0), (Int.ofNat 0), 0))])
/-- RoadHouse$Beams.moveOf -/
def sp65 : Nat × Nat × Sg := (0, 8, [(1, ((Int.ofNat 0), (Int.ofNat 0), 0)), (2, ((Int.ofNat 0), (Int.ofNat 0), 0)), (3, ((Int.ofNat 0), (Int.ofNat 0), 0)), (4, ((Int.ofNat 0), (Int.ofNat 0), 0)), (5, ((Int.ofNat 0), (Int.ofNat 0), 0)), (6, ((Int.ofNat 0), (Int.ofNat 0), 0)), (7, ((Int.ofNat 0), (Int.ofNat 0), 0)), (8, ((Int.ofNat 0), (Int.ofNat 0), 0))])
/-- RoadHouse$Beams.force -/
def sp66 : Nat × Nat × Sg := (7, 8, [(8, ((Int.ofNat 183), (Int.ofNat 190), 67))])
/-- RoadHouse$Beams.force[] -/
def sp67 : Nat × Nat × Sg := (1, 8, [(1, ((Int.ofNat 0), (Int.ofNat 0), 0)), (2, ((Int.ofNat 0), (Int.ofNat 0), 0)), (3, ((Int.ofNat 0), (Int.ofNat 0), 0)), (4, ((Int.ofNat 0), (Int.ofNat 0), 0)), (5, ((Int.ofNat 0), (Int.ofNat 0), 0)), (6, ((Int.ofNat 0), (Int.ofNat 0), 0)), (7, ((Int.ofNat 0), (Int.ofNat 0), 0)), (8, ((Int.ofNat 0), (Int.ofNat 0), 0))])
/-- RoadHouse$Beams.grid -/
def sp68 : Nat × Nat × Sg := (8, 128, [(128, ((Int.ofNat 209), (Int.ofNat 463), 76))])
/-- RoadHouse$Beams.point -/
def sp69 : Nat × Nat × Sg := (8, 13, [(13, ((Int.ofNat 465), (Int.ofNat 489), 78))])
/-- RoadHouse$Beams.aid -/
def sp70 : Nat × Nat × Sg := (8, 6, [(6, ((Int.ofNat 491), (Int.ofNat 501), 74))])
/-- RoadHouse$Beams.load -/
def sp71 : Nat × Nat × Sg := (1, 8, [(1, ((Int.ofNat 0), (Int.ofNat 0), 0)), (2, ((Int.ofNat 0), (Int.ofNat 0), 0)), (3, ((Int.ofNat 0), (Int.ofNat 0), 0)), (4, ((Int.ofNat 0), (Int.ofNat 0), 0)), (5, ((Int.ofNat 0), (Int.ofNat 0), 0)), (6, ((Int.ofNat 0), (Int.ofNat 0), 0)), (7, ((Int.ofNat 0), (Int.ofNat 0), 0)), (8, ((Int.ofNat 0), (Int.ofNat 0), 0))])
/-- RoadHouse$Beams.counts -/
def sp72 : Nat × Nat × Sg := (1, 10, [(1, ((Int.ofNat 0), (Int.ofNat 0), 0)), (2, ((Int.ofNat 0), (Int.ofNat 0), 0)), (3, ((Int.ofNat 0), (Int.ofNat 0), 0)), (4, ((Int.ofNat 0), (Int.ofNat 0), 0)), (5, ((Int.ofNat 0), (Int.ofNat 0), 0)), (6, ((Int.ofNat 0), (Int.ofNat 0), 0)), (7, ((Int.ofNat 0), (Int.ofNat 0), 0)), (8, ((Int.ofNat 0), (Int.ofNat 0), 0)), (9, ((Int.ofNat 0), (Int.ofNat 0), 0)), (10, ((Int.ofNat 0), (Int.ofNat 0), 0))])
/-- RoadHouse$Beams.told -/
def sp73 : Nat × Nat × Sg := (21, 0, [(1, ((Int.ofNat 197), (Int.ofNat 197), 74)), (2, ((Int.ofNat 199), (Int.ofNat 199), 74)), (3, ((Int.ofNat 201), (Int.ofNat 201), 74)), (4, ((Int.ofNat 203), (Int.ofNat 203), 74)), (5, ((Int.ofNat 205), (Int.ofNat 205), 74)), (6, ((Int.ofNat 207), (Int.ofNat 207), 74))])
/-- RoadHouse$Beams.big160 -/
def sp74 : Nat × Nat × Sg := (17, 0, [(1, ((Int.ofNat 198), (Int.ofNat 502), 75)), (2, ((Int.ofNat 0), (Int.ofNat 160), 0)), (3, ((Int.negSucc 0), (Int.ofNat 1), 0))])
/-- RoadHouse$Beams.bigd160 -/
def sp75 : Nat × Nat × Sg := (0, 160, [(160, ((Int.negSucc 2147483647), (Int.ofNat 2147483647), 0))])
/-- RoadHouse$Beams.big12 -/
def sp76 : Nat × Nat × Sg := (17, 0, [(1, ((Int.ofNat 210), (Int.ofNat 464), 77)), (2, ((Int.ofNat 0), (Int.ofNat 12), 0)), (3, ((Int.ofNat 0), (Int.ofNat 1), 0))])
/-- RoadHouse$Beams.bigd12 -/
def sp77 : Nat × Nat × Sg := (0, 12, [(1, ((Int.negSucc 1073741823), (Int.ofNat 1073741823), 0)), (2, ((Int.negSucc 1073741823), (Int.ofNat 1073741823), 0)), (3, ((Int.negSucc 1073741823), (Int.ofNat 1073741823), 0)), (4, ((Int.negSucc 1073741823), (Int.ofNat 1073741823), 0)), (5, ((Int.negSucc 1073741823), (Int.ofNat 1073741823), 0)), (6, ((Int.negSucc 1073741823), (Int.ofNat 1073741823), 0)), (7, ((Int.negSucc 1073741823), (Int.ofNat 1073741823), 0)), (8, ((Int.negSucc 1073741823), (Int.ofNat 1073741823), 0)), (9, ((Int.negSucc 1073741823), (Int.ofNat 1073741823), 0)), (10, ((Int.negSucc 1073741823), (Int.ofNat 1073741823), 0)), (11, ((Int.negSucc 1073741823), (Int.ofNat 1073741823), 0)), (12, ((Int.negSucc 1073741823), (Int.ofNat 1073741823), 0))])
/-- RoadHouse$Beams.big24 -/
def sp78 : Nat × Nat × Sg := (17, 0, [(1, ((Int.ofNat 466), (Int.ofNat 490), 79)), (2, ((Int.ofNat 0), (Int.ofNat 24), 0)), (3, ((Int.negSucc 0), (Int.ofNat 1), 0))])
/-- RoadHouse$Beams.bigd24 -/
def sp79 : Nat × Nat × Sg := (0, 24, [(24, ((Int.ofNat 0), (Int.ofNat 1073741823), 0))])
/-- RoadHouse.trains -/
def sp80 : Nat × Nat × Sg := (25, 0, [(1, ((Int.ofNat 0), (Int.ofNat 14), 0)), (2, ((Int.ofNat 504), (Int.ofNat 504), 81)), (3, ((Int.ofNat 0), (Int.ofNat 1), 0)), (4, ((Int.ofNat 0), (Int.ofNat 1), 0)), (5, ((Int.ofNat 0), (Int.ofNat 0), 0)), (6, ((Int.ofNat 0), (Int.ofNat 1), 0)), (7, ((Int.negSucc 2147483647), (Int.ofNat 2147483647), 0)), (8, ((Int.ofNat 519), (Int.ofNat 519), 83)), (9, ((Int.ofNat 520), (Int.ofNat 520), 84)), (10, ((Int.ofNat 527), (Int.ofNat 527), 86)), (11, ((Int.ofNat 534), (Int.ofNat 534), 88)), (12, ((Int.ofNat 541), (Int.ofNat 541), 90)), (13, ((Int.ofNat 546), (Int.ofNat 546), 92)), (14, ((Int.ofNat 547), (Int.ofNat 547), 93)), (15, ((Int.ofNat 0), (Int.ofNat 0), 0)), (16, ((Int.ofNat 556), (Int.ofNat 556), 95)), (17, ((Int.ofNat 557), (Int.ofNat 557), 96)), (18, ((Int.ofNat 558), (Int.ofNat 558), 97)), (19, ((Int.ofNat 0), (Int.ofNat 1), 0)), (20, ((Int.ofNat 559), (Int.ofNat 559), 98)), (21, ((Int.ofNat 560), (Int.ofNat 560), 99)), (22, ((Int.ofNat 561), (Int.ofNat 561), 100))])
/-- RoadHouse$Trains.corner -/
def sp81 : Nat × Nat × Sg := (6, 14, [(14, ((Int.ofNat 505), (Int.ofNat 518), 82))])
/-- RoadHouse$Trains.corner[] -/
def sp82 : Nat × Nat × Sg := (0, 3, [(1, ((Int.ofNat 0), (Int.ofNat 400), 0)), (2, ((Int.negSucc 999999), (Int.ofNat 1000000), 0)), (3, ((Int.ofNat 0), (Int.ofNat 1000), 0))])
/-- RoadHouse$Trains.axles -/
def sp83 : Nat × Nat × Sg := (0, 6, [(1, ((Int.ofNat 0), (Int.ofNat 5), 0)), (2, ((Int.ofNat 0), (Int.ofNat 0), 0)), (3, ((Int.ofNat 0), (Int.ofNat 0), 0)), (4, ((Int.ofNat 0), (Int.ofNat 0), 0)), (5, ((Int.ofNat 0), (Int.ofNat 0), 0)), (6, ((Int.ofNat 0), (Int.ofNat 0), 0))])
/-- RoadHouse$Trains.behind -/
def sp84 : Nat × Nat × Sg := (6, 6, [(6, ((Int.ofNat 521), (Int.ofNat 526), 85))])
/-- RoadHouse$Trains.behind[] -/
def sp85 : Nat × Nat × Sg := (0, 5, [(1, ((Int.ofNat 0), (Int.ofNat 0), 0)), (2, ((Int.negSucc 2147483647), (Int.ofNat 2147483647), 0)), (3, ((Int.negSucc 2147483647), (Int.ofNat 2147483647), 0)), (4, ((Int.negSucc 2147483647), (Int.ofNat 2147483647), 0)), (5, ((Int.negSucc 2147483647), (Int.ofNat 2147483647), 0))])
/-- RoadHouse$Trains.load -/
def sp86 : Nat × Nat × Sg := (6, 6, [(6, ((Int.ofNat 528), (Int.ofNat 533), 87))])
/-- RoadHouse$Trains.load[] -/
def sp87 : Nat × Nat × Sg := (0, 5, [(1, ((Int.ofNat 0), (Int.ofNat 1000000), 0)), (2, ((Int.ofNat 0), (Int.ofNat 1000000), 0)), (3, ((Int.ofNat 0), (Int.ofNat 1000000), 0)), (4, ((Int.ofNat 0), (Int.ofNat 1000000), 0)), (5, ((Int.ofNat 0), (Int.ofNat 1000000), 0))])
/-- RoadHouse$Trains.gap -/
def sp88 : Nat × Nat × Sg := (6, 6, [(6, ((Int.ofNat 535), (Int.ofNat 540), 89))])
/-- RoadHouse$Trains.gap[] -/
def sp89 : Nat × Nat × Sg := (0, 2, [(1, ((Int.ofNat 0), (Int.ofNat 0), 0)), (2, ((Int.ofNat 0), (Int.ofNat 0), 0))])
/-- RoadHouse$Trains.lane -/
def sp90 : Nat × Nat × Sg := (6, 4, [(4, ((Int.ofNat 542), (Int.ofNat 545), 91))])
/-- RoadHouse$Trains.lane[] -/
def sp91 : Nat × Nat × Sg := (0, 2, [(1, ((Int.ofNat 0), (Int.ofNat 2147483647), 0)), (2, ((Int.ofNat 0), (Int.ofNat 1000), 0))])
/-- RoadHouse$Trains.text -/
def sp92 : Nat × Nat × Sg := (4, 100, [(100, ((Int.ofNat 0), (Int.ofNat 126), 0))])
/-- RoadHouse$Trains.counted -/
def sp93 : Nat × Nat × Sg := (6, 8, [(8, ((Int.ofNat 548), (Int.ofNat 555), 94))])
/-- RoadHouse$Trains.counted[] -/
def sp94 : Nat × Nat × Sg := (0, 3, [(1, ((Int.ofNat 0), (Int.ofNat 0), 0)), (2, ((Int.ofNat 0), (Int.ofNat 0), 0)), (3, ((Int.ofNat 0), (Int.ofNat 0), 0))])
/-- RoadHouse$Trains.place -/
def sp95 : Nat × Nat × Sg := (0, 7, [(1, ((Int.negSucc 0), (Int.negSucc 0), 0)), (2, ((Int.negSucc 0), (Int.negSucc 0), 0)), (3, ((Int.negSucc 0), (Int.negSucc 0), 0)), (4, ((Int.negSucc 0), (Int.negSucc 0), 0)), (5, ((Int.negSucc 0), (Int.negSucc 0), 0)), (6, ((Int.negSucc 0), (Int.ofNat 0), 0)), (7, ((Int.negSucc 0), (Int.ofNat 1), 0))])
/-- RoadHouse$Trains.list -/
def sp96 : Nat × Nat × Sg := (0, 72, [(72, ((Int.negSucc 2147483647), (Int.ofNat 2147483647), 0))])
/-- RoadHouse$Trains.firstList -/
def sp97 : Nat × Nat × Sg := (0, 70, [(70, ((Int.ofNat 0), (Int.ofNat 0), 0))])
/-- RoadHouse$Trains.number -/
def sp98 : Nat × Nat × Sg := (8, 8, [(8, ((Int.ofNat 574), (Int.ofNat 588), 101))])
/-- RoadHouse$Trains.share -/
def sp99 : Nat × Nat × Sg := (8, 14, [(14, ((Int.ofNat 590), (Int.ofNat 616), 103))])
/-- RoadHouse$Trains.told -/
def sp100 : Nat × Nat × Sg := (21, 0, [(1, ((Int.ofNat 562), (Int.ofNat 562), 101)), (2, ((Int.ofNat 564), (Int.ofNat 564), 101)), (3, ((Int.ofNat 566), (Int.ofNat 566), 101)), (4, ((Int.ofNat 568), (Int.ofNat 568), 101)), (5, ((Int.ofNat 570), (Int.ofNat 570), 101)), (6, ((Int.ofNat 572), (Int.ofNat 572), 101))])
/-- RoadHouse$Trains.big64 -/
def sp101 : Nat × Nat × Sg := (17, 0, [(1, ((Int.ofNat 563), (Int.ofNat 589), 102)), (2, ((Int.ofNat 0), (Int.ofNat 64), 0)), (3, ((Int.ofNat 0), (Int.ofNat 1), 0))])
/-- RoadHouse$Trains.bigd64 -/
def sp102 : Nat × Nat × Sg := (0, 64, [(64, ((Int.negSucc 2147483647), (Int.ofNat 2147483647), 0))])
/-- RoadHouse$Trains.big16 -/
def sp103 : Nat × Nat × Sg := (17, 0, [(1, ((Int.ofNat 591), (Int.ofNat 617), 104)), (2, ((Int.ofNat 0), (Int.ofNat 0), 0)), (3, ((Int.ofNat 0), (Int.ofNat 0), 0))])
/-- RoadHouse$Trains.bigd16 -/
def sp104 : Nat × Nat × Sg := (0, 16, [(1, ((Int.ofNat 0), (Int.ofNat 0), 0)), (2, ((Int.ofNat 0), (Int.ofNat 0), 0)), (3, ((Int.ofNat 0), (Int.ofNat 0), 0)), (4, ((Int.ofNat 0), (Int.ofNat 0), 0)), (5, ((Int.ofNat 0), (Int.ofNat 0), 0)), (6, ((Int.ofNat 0), (Int.ofNat 0), 0)), (7, ((Int.ofNat 0), (Int.ofNat 0), 0)), (8, ((Int.ofNat 0), (Int.ofNat 0), 0)), (9, ((Int.ofNat 0), (Int.ofNat 0), 0)), (10, ((Int.ofNat 0), (Int.ofNat 0), 0)), (11, ((Int.ofNat 0), (Int.ofNat 0), 0)), (12, ((Int.ofNat 0), (Int.ofNat 0), 0)), (13, ((Int.ofNat 0), (Int.ofNat 0), 0)), (14, ((Int.ofNat 0), (Int.ofNat 0), 0)), (15, ((Int.ofNat 0), (Int.ofNat 0), 0)), (16, ((Int.ofNat 0), (Int.ofNat 0), 0))])
/-- RoadHouse.stress -/
def sp105 : Nat × Nat × Sg := (24, 0, [(1, ((Int.ofNat 619), (Int.ofNat 619), 106)), (2, ((Int.ofNat 0), (Int.ofNat 300), 0)), (3, ((Int.ofNat 620), (Int.ofNat 620), 107)), (4, ((Int.ofNat 0), (Int.ofNat 300), 0)), (5, ((Int.ofNat 621), (Int.ofNat 621), 108)), (6, ((Int.ofNat 0), (Int.ofNat 150), 0)), (7, ((Int.ofNat 772), (Int.ofNat 772), 110)), (8, ((Int.ofNat 773), (Int.ofNat 773), 111)), (9, ((Int.ofNat 782), (Int.ofNat 782), 113)), (10, ((Int.ofNat 791), (Int.ofNat 791), 115)), (11, ((Int.ofNat 792), (Int.ofNat 792), 116)), (12, ((Int.ofNat 793), (Int.ofNat 793), 117)), (13, ((Int.ofNat 794), (Int.ofNat 794), 118)), (14, ((Int.ofNat 1), (Int.ofNat 1000000), 0)), (15, ((Int.ofNat 795), (Int.ofNat 795), 119)), (16, ((Int.ofNat 0), (Int.ofNat 20), 0)), (17, ((Int.ofNat 0), (Int.ofNat 18446744073709551615), 0)), (18, ((Int.ofNat 0), (Int.ofNat 0), 0)), (19, ((Int.ofNat 816), (Int.ofNat 816), 121)), (20, ((Int.ofNat 817), (Int.ofNat 817), 122)), (21, ((Int.ofNat 818), (Int.ofNat 818), 123)), (22, ((Int.ofNat 831), (Int.ofNat 831), 124))])
/-- RoadHouse$Stress.row -/
def sp106 : Nat × Nat × Sg := (0, 300, [(300, ((Int.negSucc 999999), (Int.ofNat 1000000), 0))])
/-- RoadHouse$Stress.rest -/
def sp107 : Nat × Nat × Sg := (0, 300, [(300, ((Int.negSucc 999999), (Int.ofNat 1000000), 0))])
/-- RoadHouse$Stress.turn -/
def sp108 : Nat × Nat × Sg := (6, 150, [(150, ((Int.ofNat 622), (Int.ofNat 771), 109))])
/-- RoadHouse$Stress.turn[] -/
def sp109 : Nat × Nat × Sg := (0, 3, [(1, ((Int.negSucc 999999), (Int.ofNat 1000000), 0)), (2, ((Int.negSucc 999999), (Int.ofNat 1000000), 0)), (3, ((Int.ofNat 0), (Int.ofNat 300), 0))])
/-- RoadHouse$Stress.anew -/
def sp110 : Nat × Nat × Sg := (0, 300, [(300, ((Int.negSucc 999999), (Int.ofNat 1000000), 0))])
/-- RoadHouse$Stress.range -/
def sp111 : Nat × Nat × Sg := (6, 8, [(8, ((Int.ofNat 774), (Int.ofNat 781), 112))])
/-- RoadHouse$Stress.range[] -/
def sp112 : Nat × Nat × Sg := (0, 4, [(1, ((Int.ofNat 0), (Int.ofNat 2000000), 0)), (2, ((Int.ofNat 0), (Int.ofNat 1999999), 0)), (3, ((Int.ofNat 0), (Int.ofNat 1999999), 0)), (4, ((Int.ofNat 0), (Int.ofNat 1999999), 0))])
/-- RoadHouse$Stress.cycles -/
def sp113 : Nat × Nat × Sg := (6, 8, [(8, ((Int.ofNat 783), (Int.ofNat 790), 114))])
/-- RoadHouse$Stress.cycles[] -/
def sp114 : Nat × Nat × Sg := (0, 4, [(1, ((Int.ofNat 0), (Int.ofNat 1000000), 0)), (2, ((Int.ofNat 0), (Int.ofNat 1000000), 0)), (3, ((Int.ofNat 0), (Int.ofNat 1000000), 0)), (4, ((Int.ofNat 0), (Int.ofNat 1000000), 0))])
/-- RoadHouse$Stress.lines -/
def sp115 : Nat × Nat × Sg := (0, 8, [(1, ((Int.ofNat 0), (Int.ofNat 4), 0)), (2, ((Int.ofNat 0), (Int.ofNat 4), 0)), (3, ((Int.ofNat 0), (Int.ofNat 4), 0)), (4, ((Int.ofNat 0), (Int.ofNat 4), 0)), (5, ((Int.ofNat 0), (Int.ofNat 4), 0)), (6, ((Int.ofNat 0), (Int.ofNat 4), 0)), (7, ((Int.ofNat 0), (Int.ofNat 4), 0)), (8, ((Int.ofNat 0), (Int.ofNat 4), 0))])
/-- RoadHouse$Stress.cutOff -/
def sp116 : Nat × Nat × Sg := (0, 8, [(1, ((Int.ofNat 0), (Int.ofNat 2000000), 0)), (2, ((Int.ofNat 0), (Int.ofNat 2000000), 0)), (3, ((Int.ofNat 0), (Int.ofNat 2000000), 0)), (4, ((Int.ofNat 0), (Int.ofNat 2000000), 0)), (5, ((Int.ofNat 0), (Int.ofNat 2000000), 0)), (6, ((Int.ofNat 0), (Int.ofNat 2000000), 0)), (7, ((Int.ofNat 0), (Int.ofNat 2000000), 0)), (8, ((Int.ofNat 0), (Int.ofNat 2000000), 0))])
/-- RoadHouse$Stress.hot -/
def sp117 : Nat × Nat × Sg := (0, 2, [(1, ((Int.ofNat 1), (Int.ofNat 1000), 0)), (2, ((Int.ofNat 1), (Int.ofNat 1000), 0))])
/-- RoadHouse$Stress.cents -/
def sp118 : Nat × Nat × Sg := (0, 2, [(1, ((Int.ofNat 0), (Int.ofNat 1000000), 0)), (2, ((Int.ofNat 0), (Int.ofNat 1000000), 0))])
/-- RoadHouse$Stress.history -/
def sp119 : Nat × Nat × Sg := (6, 20, [(20, ((Int.ofNat 796), (Int.ofNat 815), 120))])
/-- RoadHouse$Stress.history[] -/
def sp120 : Nat × Nat × Sg := (0, 4, [(1, ((Int.ofNat 0), (Int.ofNat 10000), 0)), (2, ((Int.ofNat 0), (Int.ofNat 150), 0)), (3, ((Int.ofNat 0), (Int.ofNat 300), 0)), (4, ((Int.ofNat 0), (Int.ofNat 2000000), 0))])
/-- RoadHouse$Stress.least -/
def sp121 : Nat × Nat × Sg := (1, 31, [(31, ((Int.negSucc 9223372036854775807), (Int.ofNat 999999999), 0))])
/-- RoadHouse$Stress.fewest -/
def sp122 : Nat × Nat × Sg := (0, 31, [(31, ((Int.negSucc 2147483647), (Int.ofNat 2147483647), 0))])
/-- RoadHouse$Stress.told -/
def sp123 : Nat × Nat × Sg := (21, 0, [(1, ((Int.ofNat 819), (Int.ofNat 819), 124)), (2, ((Int.ofNat 821), (Int.ofNat 821), 124)), (3, ((Int.ofNat 823), (Int.ofNat 823), 124)), (4, ((Int.ofNat 825), (Int.ofNat 825), 124)), (5, ((Int.ofNat 827), (Int.ofNat 827), 124)), (6, ((Int.ofNat 829), (Int.ofNat 829), 124))])
/-- RoadHouse$Stress.big32 -/
def sp124 : Nat × Nat × Sg := (17, 0, [(1, ((Int.ofNat 820), (Int.ofNat 832), 125)), (2, ((Int.ofNat 0), (Int.ofNat 32), 0)), (3, ((Int.ofNat 0), (Int.ofNat 1), 0))])
/-- RoadHouse$Stress.bigd32 -/
def sp125 : Nat × Nat × Sg := (0, 32, [(32, ((Int.negSucc 1073741823), (Int.ofNat 1073741823), 0))])
/-- RoadHouse.signals -/
def sp126 : Nat × Nat × Sg := (23, 0, [(1, ((Int.ofNat 1), (Int.ofNat 1), 0)), (2, ((Int.ofNat 834), (Int.ofNat 834), 127)), (3, ((Int.ofNat 835), (Int.ofNat 835), 128)), (4, ((Int.ofNat 842), (Int.ofNat 842), 130)), (5, ((Int.ofNat 843), (Int.ofNat 843), 131)), (6, ((Int.ofNat 0), (Int.ofNat 3), 0)), (7, ((Int.ofNat 844), (Int.ofNat 844), 132)), (8, ((Int.ofNat 845), (Int.ofNat 845), 133)), (9, ((Int.ofNat 850), (Int.ofNat 850), 135)), (10, ((Int.ofNat 0), (Int.ofNat 60), 0)), (11, ((Int.ofNat 851), (Int.ofNat 851), 136)), (12, ((Int.ofNat 0), (Int.ofNat 60), 0)), (13, ((Int.ofNat 912), (Int.ofNat 912), 138)), (14, ((Int.ofNat 913), (Int.ofNat 913), 139)), (15, ((Int.negSucc 2147483647), (Int.ofNat 2147483647), 0)), (16, ((Int.negSucc 0), (Int.negSucc 0), 0)), (17, ((Int.ofNat 0), (Int.ofNat 0), 0)), (18, ((Int.ofNat 914), (Int.ofNat 914), 140)), (19, ((Int.ofNat 915), (Int.ofNat 915), 141)), (20, ((Int.ofNat 1316), (Int.ofNat 1316), 143)), (21, ((Int.ofNat 1317), (Int.ofNat 1317), 144)), (22, ((Int.ofNat 1318), (Int.ofNat 1318), 145))])
/-- RoadHouse$Signals.clashes -/
def sp127 : Nat × Nat × Sg := (0, 6, [(1, ((Int.ofNat 0), (Int.ofNat 0), 0)), (2, ((Int.ofNat 0), (Int.ofNat 0), 0)), (3, ((Int.ofNat 0), (Int.ofNat 0), 0)), (4, ((Int.ofNat 0), (Int.ofNat 0), 0)), (5, ((Int.ofNat 0), (Int.ofNat 0), 0)), (6, ((Int.ofNat 0), (Int.ofNat 0), 0))])
/-- RoadHouse$Signals.clear -/
def sp128 : Nat × Nat × Sg := (6, 6, [(6, ((Int.ofNat 836), (Int.ofNat 841), 129))])
/-- RoadHouse$Signals.clear[] -/
def sp129 : Nat × Nat × Sg := (0, 6, [(1, ((Int.ofNat 0), (Int.ofNat 0), 0)), (2, ((Int.ofNat 0), (Int.ofNat 0), 0)), (3, ((Int.ofNat 0), (Int.ofNat 0), 0)), (4, ((Int.ofNat 0), (Int.ofNat 0), 0)), (5, ((Int.ofNat 0), (Int.ofNat 0), 0)), (6, ((Int.ofNat 0), (Int.ofNat 0), 0))])
/-- RoadHouse$Signals.least -/
def sp130 : Nat × Nat × Sg := (0, 6, [(1, ((Int.ofNat 1), (Int.ofNat 15), 0)), (2, ((Int.ofNat 1), (Int.ofNat 1), 0)), (3, ((Int.ofNat 1), (Int.ofNat 1), 0)), (4, ((Int.ofNat 1), (Int.ofNat 1), 0)), (5, ((Int.ofNat 1), (Int.ofNat 1), 0)), (6, ((Int.ofNat 1), (Int.ofNat 1), 0))])
/-- RoadHouse$Signals.most -/
def sp131 : Nat × Nat × Sg := (0, 6, [(1, ((Int.ofNat 1), (Int.ofNat 31), 0)), (2, ((Int.ofNat 31), (Int.ofNat 31), 0)), (3, ((Int.ofNat 31), (Int.ofNat 31), 0)), (4, ((Int.ofNat 31), (Int.ofNat 31), 0)), (5, ((Int.ofNat 31), (Int.ofNat 31), 0)), (6, ((Int.ofNat 31), (Int.ofNat 31), 0))])
/-- RoadHouse$Signals.phases -/
def sp132 : Nat × Nat × Sg := (0, 3, [(1, ((Int.negSucc 2147483647), (Int.ofNat 2147483647), 0)), (2, ((Int.negSucc 2147483647), (Int.ofNat 2147483647), 0)), (3, ((Int.negSucc 2147483647), (Int.ofNat 2147483647), 0))])
/-- RoadHouse$Signals.phase -/
def sp133 : Nat × Nat × Sg := (6, 4, [(4, ((Int.ofNat 846), (Int.ofNat 849), 134))])
/-- RoadHouse$Signals.phase[] -/
def sp134 : Nat × Nat × Sg := (0, 15, [(1, ((Int.ofNat 0), (Int.ofNat 1), 0)), (2, ((Int.ofNat 0), (Int.ofNat 31), 0)), (3, ((Int.ofNat 0), (Int.ofNat 31), 0)), (4, ((Int.ofNat 0), (Int.ofNat 31), 0)), (5, ((Int.ofNat 0), (Int.ofNat 31), 0)), (6, ((Int.ofNat 0), (Int.ofNat 31), 0)), (7, ((Int.ofNat 0), (Int.ofNat 31), 0)), (8, ((Int.ofNat 0), (Int.ofNat 31), 0)), (9, ((Int.ofNat 0), (Int.ofNat 31), 0)), (10, ((Int.ofNat 0), (Int.ofNat 31), 0)), (11, ((Int.ofNat 0), (Int.ofNat 31), 0)), (12, ((Int.ofNat 0), (Int.ofNat 31), 0)), (13, ((Int.ofNat 0), (Int.ofNat 31), 0)), (14, ((Int.ofNat 0), (Int.ofNat 31), 0)), (15, ((Int.ofNat 0), (Int.ofNat 31), 0))])
/-- RoadHouse$Signals.text -/
def sp135 : Nat × Nat × Sg := (4, 60, [(60, ((Int.ofNat 0), (Int.ofNat 126), 0))])
/-- RoadHouse$Signals.told -/
def sp136 : Nat × Nat × Sg := (6, 60, [(60, ((Int.ofNat 852), (Int.ofNat 911), 137))])
/-- RoadHouse$Signals.told[] -/
def sp137 : Nat × Nat × Sg := (0, 2, [(1, ((Int.negSucc 2147483646), (Int.ofNat 2147483647), 0)), (2, ((Int.ofNat 0), (Int.ofNat 4), 0))])
/-- RoadHouse$Signals.machine -/
def sp138 : Nat × Nat × Sg := (0, 14, [(1, ((Int.ofNat 0), (Int.ofNat 0), 0)), (2, ((Int.ofNat 0), (Int.ofNat 0), 0)), (3, ((Int.ofNat 0), (Int.ofNat 31), 0)), (4, ((Int.ofNat 0), (Int.ofNat 0), 0)), (5, ((Int.ofNat 0), (Int.ofNat 0), 0)), (6, ((Int.ofNat 0), (Int.ofNat 0), 0)), (7, ((Int.ofNat 0), (Int.ofNat 2), 0)), (8, ((Int.ofNat 0), (Int.ofNat 1), 0)), (9, ((Int.ofNat 0), (Int.ofNat 31), 0)), (10, ((Int.ofNat 0), (Int.ofNat 0), 0)), (11, ((Int.ofNat 0), (Int.ofNat 0), 0)), (12, ((Int.ofNat 0), (Int.ofNat 0), 0)), (13, ((Int.ofNat 0), (Int.ofNat 0), 0)), (14, ((Int.ofNat 0), (Int.ofNat 0), 0))])
/-- RoadHouse$Signals.probe -/
def sp139 : Nat × Nat × Sg := (0, 14, [(1, ((Int.ofNat 0), (Int.ofNat 0), 0)), (2, ((Int.ofNat 0), (Int.ofNat 0), 0)), (3, ((Int.ofNat 0), (Int.ofNat 0), 0)), (4, ((Int.ofNat 0), (Int.ofNat 0), 0)), (5, ((Int.ofNat 0), (Int.ofNat 0), 0)), (6, ((Int.ofNat 0), (Int.ofNat 0), 0)), (7, ((Int.ofNat 0), (Int.ofNat 0), 0)), (8, ((Int.ofNat 0), (Int.ofNat 0), 0)), (9, ((Int.ofNat 0), (Int.ofNat 0), 0)), (10, ((Int.ofNat 0), (Int.ofNat 0), 0)), (11, ((Int.ofNat 0), (Int.ofNat 0), 0)), (12, ((Int.ofNat 0), (Int.ofNat 0), 0)), (13, ((Int.ofNat 0), (Int.ofNat 0), 0)), (14, ((Int.ofNat 0), (Int.ofNat 0), 0))])
/-- RoadHouse$Signals.state -/
def sp140 : Nat × Nat × Sg := (1, 401, [(401, ((Int.ofNat 0), (Int.ofNat 0), 0))])
/-- RoadHouse$Signals.found -/
def sp141 : Nat × Nat × Sg := (6, 400, [(400, ((Int.ofNat 916), (Int.ofNat 1315), 142))])
/-- RoadHouse$Signals.found[] -/
def sp142 : Nat × Nat × Sg := (0, 12, [(1, ((Int.ofNat 0), (Int.ofNat 0), 0)), (2, ((Int.ofNat 0), (Int.ofNat 0), 0)), (3, ((Int.ofNat 0), (Int.ofNat 0), 0)), (4, ((Int.ofNat 0), (Int.ofNat 0), 0)), (5, ((Int.ofNat 0), (Int.ofNat 0), 0)), (6, ((Int.ofNat 0), (Int.ofNat 0), 0)), (7, ((Int.ofNat 0), (Int.ofNat 0), 0)), (8, ((Int.ofNat 0), (Int.ofNat 0), 0)), (9, ((Int.ofNat 0), (Int.ofNat 0), 0)), (10, ((Int.ofNat 0), (Int.ofNat 0), 0)), (11, ((Int.ofNat 0), (Int.ofNat 0), 0)), (12, ((Int.ofNat 0), (Int.ofNat 0), 0))])
/-- RoadHouse$Signals.slot -/
def sp143 : Nat × Nat × Sg := (0, 1024, [(1024, ((Int.ofNat 0), (Int.ofNat 0), 0))])
/-- RoadHouse$Signals.way -/
def sp144 : Nat × Nat × Sg := (0, 400, [(400, ((Int.ofNat 0), (Int.ofNat 0), 0))])
/-- RoadHouse$Signals.last -/
def sp145 : Nat × Nat × Sg := (0, 3, [(1, ((Int.ofNat 0), (Int.ofNat 0), 0)), (2, ((Int.ofNat 0), (Int.ofNat 0), 0)), (3, ((Int.ofNat 0), (Int.ofNat 0), 0))])
/-- RoadHouse.cars -/
def sp146 : Nat × Nat × Sg := (18, 0, [(1, ((Int.ofNat 1320), (Int.ofNat 1320), 147)), (2, ((Int.ofNat 1345), (Int.ofNat 1345), 149)), (3, ((Int.ofNat 0), (Int.ofNat 96), 0)), (4, ((Int.ofNat 1442), (Int.ofNat 1442), 151)), (5, ((Int.ofNat 1467), (Int.ofNat 1467), 153)), (6, ((Int.ofNat 1492), (Int.ofNat 1492), 155)), (7, ((Int.ofNat 0), (Int.ofNat 200), 0)), (8, ((Int.ofNat 1693), (Int.ofNat 1693), 157)), (9, ((Int.ofNat 0), (Int.ofNat 1), 0)), (10, ((Int.ofNat 1894), (Int.ofNat 1894), 159)), (11, ((Int.ofNat 0), (Int.ofNat 1), 0)), (12, ((Int.ofNat 1955), (Int.ofNat 1955), 161)), (13, ((Int.ofNat 0), (Int.ofNat 1), 0)), (14, ((Int.ofNat 1968), (Int.ofNat 1968), 163)), (15, ((Int.ofNat 1969), (Int.ofNat 1969), 164)), (16, ((Int.ofNat 0), (Int.ofNat 0), 0)), (17, ((Int.ofNat 1974), (Int.ofNat 1974), 166)), (18, ((Int.ofNat 1975), (Int.ofNat 1975), 167)), (19, ((Int.ofNat 1976), (Int.ofNat 1976), 168)), (20, ((Int.ofNat 1977), (Int.ofNat 1977), 169)), (21, ((Int.ofNat 1978), (Int.ofNat 1978), 170)), (22, ((Int.ofNat 1981), (Int.ofNat 1981), 172))])
/-- RoadHouse$Cars.cell -/
def sp147 : Nat × Nat × Sg := (6, 24, [(24, ((Int.ofNat 1321), (Int.ofNat 1344), 148))])
/-- RoadHouse$Cars.cell[] -/
def sp148 : Nat × Nat × Sg := (0, 7, [(1, ((Int.ofNat 0), (Int.ofNat 100000), 0)), (2, ((Int.ofNat 0), (Int.ofNat 100000), 0)), (3, ((Int.ofNat 0), (Int.ofNat 100), 0)), (4, ((Int.ofNat 0), (Int.ofNat 20), 0)), (5, ((Int.ofNat 0), (Int.ofNat 100000), 0)), (6, ((Int.ofNat 0), (Int.ofNat 4), 0)), (7, ((Int.ofNat 0), (Int.ofNat 4), 0))])
/-- RoadHouse$Cars.join -/
def sp149 : Nat × Nat × Sg := (6, 96, [(96, ((Int.ofNat 1346), (Int.ofNat 1441), 150))])
/-- RoadHouse$Cars.join[] -/
def sp150 : Nat × Nat × Sg := (0, 5, [(1, ((Int.ofNat 0), (Int.ofNat 23), 0)), (2, ((Int.ofNat 0), (Int.ofNat 23), 0)), (3, ((Int.ofNat 0), (Int.ofNat 2147483647), 0)), (4, ((Int.ofNat 0), (Int.ofNat 1000), 0)), (5, ((Int.ofNat 0), (Int.ofNat 0), 0))])
/-- RoadHouse$Cars.joinsFrom -/
def sp151 : Nat × Nat × Sg := (6, 24, [(24, ((Int.ofNat 1443), (Int.ofNat 1466), 152))])
/-- RoadHouse$Cars.joinsFrom[] -/
def sp152 : Nat × Nat × Sg := (0, 4, [(1, ((Int.ofNat 0), (Int.ofNat 95), 0)), (2, ((Int.ofNat 0), (Int.ofNat 95), 0)), (3, ((Int.ofNat 0), (Int.ofNat 95), 0)), (4, ((Int.ofNat 0), (Int.ofNat 95), 0))])
/-- RoadHouse$Cars.joinsTo -/
def sp153 : Nat × Nat × Sg := (6, 24, [(24, ((Int.ofNat 1468), (Int.ofNat 1491), 154))])
/-- RoadHouse$Cars.joinsTo[] -/
def sp154 : Nat × Nat × Sg := (0, 4, [(1, ((Int.ofNat 0), (Int.ofNat 95), 0)), (2, ((Int.ofNat 0), (Int.ofNat 95), 0)), (3, ((Int.ofNat 0), (Int.ofNat 95), 0)), (4, ((Int.ofNat 0), (Int.ofNat 95), 0))])
/-- RoadHouse$Cars.setting -/
def sp155 : Nat × Nat × Sg := (6, 200, [(200, ((Int.ofNat 1493), (Int.ofNat 1692), 156))])
/-- RoadHouse$Cars.setting[] -/
def sp156 : Nat × Nat × Sg := (0, 5, [(1, ((Int.ofNat 0), (Int.ofNat 1), 0)), (2, ((Int.ofNat 0), (Int.ofNat 23), 0)), (3, ((Int.ofNat 0), (Int.ofNat 200), 0)), (4, ((Int.ofNat 0), (Int.ofNat 2147483647), 0)), (5, ((Int.ofNat 0), (Int.ofNat 1000), 0))])
/-- RoadHouse$Cars.coming -/
def sp157 : Nat × Nat × Sg := (6, 200, [(200, ((Int.ofNat 1694), (Int.ofNat 1893), 158))])
/-- RoadHouse$Cars.coming[] -/
def sp158 : Nat × Nat × Sg := (0, 3, [(1, ((Int.ofNat 0), (Int.ofNat 23), 0)), (2, ((Int.ofNat 0), (Int.ofNat 200), 0)), (3, ((Int.ofNat 0), (Int.ofNat 100000), 0))])
/-- RoadHouse$Cars.read -/
def sp159 : Nat × Nat × Sg := (6, 60, [(60, ((Int.ofNat 1895), (Int.ofNat 1954), 160))])
/-- RoadHouse$Cars.read[] -/
def sp160 : Nat × Nat × Sg := (0, 3, [(1, ((Int.ofNat 0), (Int.ofNat 23), 0)), (2, ((Int.ofNat 0), (Int.ofNat 200), 0)), (3, ((Int.negSucc 2147483647), (Int.ofNat 2147483647), 0))])
/-- RoadHouse$Cars.rule -/
def sp161 : Nat × Nat × Sg := (6, 12, [(12, ((Int.ofNat 1956), (Int.ofNat 1967), 162))])
/-- RoadHouse$Cars.rule[] -/
def sp162 : Nat × Nat × Sg := (0, 3, [(1, ((Int.ofNat 0), (Int.ofNat 23), 0)), (2, ((Int.ofNat 0), (Int.ofNat 2147483647), 0)), (3, ((Int.ofNat 0), (Int.ofNat 23), 0))])
/-- RoadHouse$Cars.now -/
def sp163 : Nat × Nat × Sg := (1, 10216, [(10216, ((Int.ofNat 0), (Int.ofNat 1), 0))])
/-- RoadHouse$Cars.saved -/
def sp164 : Nat × Nat × Sg := (7, 4, [(4, ((Int.ofNat 1970), (Int.ofNat 1973), 165))])
/-- RoadHouse$Cars.saved[] -/
def sp165 : Nat × Nat × Sg := (1, 1, [(1, ((Int.ofNat 0), (Int.ofNat 0), 0))])
/-- RoadHouse$Cars.cap -/
def sp166 : Nat × Nat × Sg := (1, 24, [(24, ((Int.ofNat 0), (Int.ofNat 0), 0))])
/-- RoadHouse$Cars.can -/
def sp167 : Nat × Nat × Sg := (1, 24, [(24, ((Int.ofNat 0), (Int.ofNat 0), 0))])
/-- RoadHouse$Cars.sent -/
def sp168 : Nat × Nat × Sg := (1, 24, [(24, ((Int.ofNat 0), (Int.ofNat 0), 0))])
/-- RoadHouse$Cars.takes -/
def sp169 : Nat × Nat × Sg := (1, 24, [(24, ((Int.ofNat 0), (Int.ofNat 0), 0))])
/-- RoadHouse$Cars.valid -/
def sp170 : Nat × Nat × Sg := (6, 2, [(2, ((Int.ofNat 1979), (Int.ofNat 1980), 171))])
/-- RoadHouse$Cars.valid[] -/
def sp171 : Nat × Nat × Sg := (0, 24, [(24, ((Int.ofNat 0), (Int.ofNat 0), 0))])
/-- RoadHouse$Cars.wanted -/
def sp172 : Nat × Nat × Sg := (1, 96, [(96, ((Int.ofNat 0), (Int.ofNat 0), 0))])
/-- RoadHouse.contract -/
def sp173 : Nat × Nat × Sg := (19, 0, [(1, ((Int.ofNat 1983), (Int.ofNat 1983), 174)), (2, ((Int.ofNat 0), (Int.ofNat 200), 0)), (3, ((Int.ofNat 1984), (Int.ofNat 1984), 175)), (4, ((Int.ofNat 0), (Int.ofNat 0), 0)), (5, ((Int.ofNat 2185), (Int.ofNat 2185), 177)), (6, ((Int.ofNat 0), (Int.ofNat 0), 0)), (7, ((Int.ofNat 2194), (Int.ofNat 2194), 179)), (8, ((Int.ofNat 0), (Int.ofNat 40), 0)), (9, ((Int.ofNat 2235), (Int.ofNat 2235), 181)), (10, ((Int.ofNat 2296), (Int.ofNat 2296), 183)), (11, ((Int.ofNat 0), (Int.ofNat 0), 0)), (12, ((Int.ofNat 2297), (Int.ofNat 2297), 184)), (13, ((Int.ofNat 0), (Int.ofNat 0), 0)), (14, ((Int.ofNat 2318), (Int.ofNat 2318), 186)), (15, ((Int.negSucc 0), (Int.ofNat 11), 0)), (16, ((Int.ofNat 2332), (Int.ofNat 2332), 188)), (17, ((Int.ofNat 0), (Int.ofNat 10), 0)), (18, ((Int.ofNat 2343), (Int.ofNat 2343), 190)), (19, ((Int.ofNat 2344), (Int.ofNat 2344), 191)), (20, ((Int.ofNat 0), (Int.ofNat 100), 0)), (21, ((Int.ofNat 0), (Int.ofNat 0), 0)), (22, ((Int.ofNat 2445), (Int.ofNat 2445), 193)), (23, ((Int.ofNat 2446), (Int.ofNat 2446), 194))])
/-- RoadHouse$Contract.text -/
def sp174 : Nat × Nat × Sg := (4, 200, [(200, ((Int.ofNat 0), (Int.ofNat 126), 0))])
/-- RoadHouse$Contract.word -/
def sp175 : Nat × Nat × Sg := (6, 200, [(200, ((Int.ofNat 1985), (Int.ofNat 2184), 176))])
/-- RoadHouse$Contract.word[] -/
def sp176 : Nat × Nat × Sg := (0, 3, [(1, ((Int.ofNat 0), (Int.ofNat 0), 0)), (2, ((Int.ofNat 0), (Int.ofNat 0), 0)), (3, ((Int.ofNat 0), (Int.ofNat 0), 0))])
/-- RoadHouse$Contract.item -/
def sp177 : Nat × Nat × Sg := (6, 8, [(8, ((Int.ofNat 2186), (Int.ofNat 2193), 178))])
/-- RoadHouse$Contract.item[] -/
def sp178 : Nat × Nat × Sg := (0, 42, [(42, ((Int.ofNat 0), (Int.ofNat 0), 0))])
/-- RoadHouse$Contract.shape -/
def sp179 : Nat × Nat × Sg := (6, 40, [(40, ((Int.ofNat 2195), (Int.ofNat 2234), 180))])
/-- RoadHouse$Contract.shape[] -/
def sp180 : Nat × Nat × Sg := (0, 4, [(1, ((Int.ofNat 0), (Int.ofNat 3), 0)), (2, ((Int.negSucc 9998), (Int.ofNat 9999), 0)), (3, ((Int.negSucc 9998), (Int.ofNat 9999), 0)), (4, ((Int.negSucc 9998), (Int.ofNat 9999), 0))])
/-- RoadHouse$Contract.entry -/
def sp181 : Nat × Nat × Sg := (6, 60, [(60, ((Int.ofNat 2236), (Int.ofNat 2295), 182))])
/-- RoadHouse$Contract.entry[] -/
def sp182 : Nat × Nat × Sg := (0, 6, [(1, ((Int.ofNat 0), (Int.ofNat 0), 0)), (2, ((Int.ofNat 0), (Int.ofNat 0), 0)), (3, ((Int.ofNat 0), (Int.ofNat 0), 0)), (4, ((Int.ofNat 0), (Int.ofNat 0), 0)), (5, ((Int.ofNat 0), (Int.ofNat 0), 0)), (6, ((Int.ofNat 0), (Int.ofNat 0), 0))])
/-- RoadHouse$Contract.measured -/
def sp183 : Nat × Nat × Sg := (1, 60, [(60, ((Int.ofNat 0), (Int.ofNat 0), 0))])
/-- RoadHouse$Contract.change -/
def sp184 : Nat × Nat × Sg := (6, 20, [(20, ((Int.ofNat 2298), (Int.ofNat 2317), 185))])
/-- RoadHouse$Contract.change[] -/
def sp185 : Nat × Nat × Sg := (0, 4, [(1, ((Int.ofNat 0), (Int.ofNat 0), 0)), (2, ((Int.ofNat 0), (Int.ofNat 0), 0)), (3, ((Int.ofNat 0), (Int.ofNat 0), 0)), (4, ((Int.ofNat 0), (Int.ofNat 0), 0))])
/-- RoadHouse$Contract.index -/
def sp186 : Nat × Nat × Sg := (6, 13, [(13, ((Int.ofNat 2319), (Int.ofNat 2331), 187))])
/-- RoadHouse$Contract.index[] -/
def sp187 : Nat × Nat × Sg := (0, 2, [(1, ((Int.ofNat 0), (Int.ofNat 2147483647), 0)), (2, ((Int.ofNat 1), (Int.ofNat 1000), 0))])
/-- RoadHouse$Contract.penalty -/
def sp188 : Nat × Nat × Sg := (6, 10, [(10, ((Int.ofNat 2333), (Int.ofNat 2342), 189))])
/-- RoadHouse$Contract.penalty[] -/
def sp189 : Nat × Nat × Sg := (0, 3, [(1, ((Int.ofNat 0), (Int.ofNat 11), 0)), (2, ((Int.ofNat 0), (Int.ofNat 11), 0)), (3, ((Int.ofNat 0), (Int.ofNat 1000000), 0))])
/-- RoadHouse$Contract.weight -/
def sp190 : Nat × Nat × Sg := (0, 4, [(1, ((Int.ofNat 0), (Int.ofNat 1000), 0)), (2, ((Int.ofNat 0), (Int.ofNat 1000), 0)), (3, ((Int.ofNat 0), (Int.ofNat 1000), 0)), (4, ((Int.ofNat 0), (Int.ofNat 1000), 0))])
/-- RoadHouse$Contract.open -/
def sp191 : Nat × Nat × Sg := (6, 100, [(100, ((Int.ofNat 2345), (Int.ofNat 2444), 192))])
/-- RoadHouse$Contract.open[] -/
def sp192 : Nat × Nat × Sg := (0, 3, [(1, ((Int.ofNat 0), (Int.ofNat 1), 0)), (2, ((Int.negSucc 2147483647), (Int.ofNat 2147483647), 0)), (3, ((Int.negSucc 0), (Int.ofNat 0), 0))])
/-- RoadHouse$Contract.stack -/
def sp193 : Nat × Nat × Sg := (1, 41, [(41, ((Int.ofNat 0), (Int.ofNat 0), 0))])
/-- RoadHouse$Contract.written -/
def sp194 : Nat × Nat × Sg := (4, 408, [(408, ((Int.ofNat 0), (Int.ofNat 0), 0))])
/-- RoadHouse.cellGreen -/
def sp195 : Nat × Nat × Sg := (2, 6, [(6, ((Int.ofNat 0), (Int.ofNat 1), 0))])
/-- cell2448 -/
def sp196 : Nat × Nat × Sg := (36, 0, [(1, ((Int.ofNat 0), (Int.ofNat 0), 0)), (2, ((Int.ofNat 2449), (Int.ofNat 2449), 197)), (3, ((Int.ofNat 2468), (Int.ofNat 2468), 216)), (4, ((Int.ofNat 2495), (Int.ofNat 2495), 243)), (5, ((Int.ofNat 2514), (Int.ofNat 2514), 262)), (6, ((Int.ofNat 2534), (Int.ofNat 2534), 282)), (7, ((Int.ofNat 2551), (Int.ofNat 2551), 297)), (8, ((Int.ofNat 2570), (Int.ofNat 2570), 316)), (9, ((Int.ofNat 2595), (Int.ofNat 2595), 341)), (10, ((Int.ofNat 2619), (Int.ofNat 2619), 365)), (11, ((Int.ofNat 2620), (Int.ofNat 2620), 366)), (12, ((Int.ofNat 2621), (Int.ofNat 2621), 367)), (13, ((Int.ofNat 2622), (Int.ofNat 2622), 368)), (14, ((Int.ofNat 0), (Int.ofNat 0), 0)), (15, ((Int.ofNat 2623), (Int.ofNat 2623), 369)), (16, ((Int.ofNat 2624), (Int.ofNat 2624), 370)), (17, ((Int.ofNat 2625), (Int.ofNat 2625), 371)), (18, ((Int.ofNat 2626), (Int.ofNat 2626), 372)), (19, ((Int.ofNat 0), (Int.ofNat 0), 0))])
/-- RoadHouseModel.way -/
def sp197 : Nat × Nat × Sg := (28, 0, [(1, ((Int.ofNat 12), (Int.ofNat 12), 0)), (2, ((Int.ofNat 12), (Int.ofNat 12), 0)), (3, ((Int.ofNat 2450), (Int.ofNat 2450), 198)), (4, ((Int.ofNat 2451), (Int.ofNat 2451), 199)), (5, ((Int.ofNat 2452), (Int.ofNat 2452), 200)), (6, ((Int.ofNat 2453), (Int.ofNat 2453), 201)), (7, ((Int.ofNat 2454), (Int.ofNat 2454), 202)), (8, ((Int.ofNat 2455), (Int.ofNat 2455), 203)), (9, ((Int.ofNat 2456), (Int.ofNat 2456), 204)), (10, ((Int.ofNat 2457), (Int.ofNat 2457), 205)), (11, ((Int.ofNat 2458), (Int.ofNat 2458), 206)), (12, ((Int.ofNat 2459), (Int.ofNat 2459), 207)), (13, ((Int.ofNat 1), (Int.ofNat 1), 0)), (14, ((Int.ofNat 9999), (Int.ofNat 9999), 0)), (15, ((Int.ofNat 8), (Int.ofNat 8), 0)), (16, ((Int.ofNat 2460), (Int.ofNat 2460), 208)), (17, ((Int.ofNat 2461), (Int.ofNat 2461), 209)), (18, ((Int.ofNat 2462), (Int.ofNat 2462), 210)), (19, ((Int.ofNat 2463), (Int.ofNat 2463), 211)), (20, ((Int.ofNat 2464), (Int.ofNat 2464), 212)), (21, ((Int.ofNat 0), (Int.ofNat 0), 0)), (22, ((Int.ofNat 0), (Int.ofNat 0), 0)), (23, ((Int.ofNat 0), (Int.ofNat 0), 0)), (24, ((Int.ofNat 0), (Int.ofNat 0), 0)), (25, ((Int.ofNat 2465), (Int.ofNat 2465), 213)), (26, ((Int.ofNat 2466), (Int.ofNat 2466), 214)), (27, ((Int.ofNat 2467), (Int.ofNat 2467), 215)), (28, ((Int.ofNat 0), (Int.ofNat 0), 0)), (29, ((Int.ofNat 0), (Int.ofNat 0), 0)), (30, ((Int.negSucc 0), (Int.negSucc 0), 0)), (31, ((Int.ofNat 0), (Int.ofNat 0), 0)), (32, ((Int.ofNat 0), (Int.ofNat 0), 0))])
/-- RoadHouseModel$CorridorCellsModel.costs -/
def sp198 : Nat × Nat × Sg := (0, 144, [(144, ((Int.ofNat 0), (Int.ofNat 0), 0))])
/-- RoadHouseModel$CorridorCellsModel.levels -/
def sp199 : Nat × Nat × Sg := (0, 144, [(144, ((Int.ofNat 0), (Int.ofNat 0), 0))])
/-- RoadHouseModel$CorridorCellsModel.zones -/
def sp200 : Nat × Nat × Sg := (0, 144, [(144, ((Int.ofNat 0), (Int.ofNat 0), 0))])
/-- RoadHouseModel$CorridorCellsModel.mosts -/
def sp201 : Nat × Nat × Sg := (0, 144, [(144, ((Int.ofNat 0), (Int.ofNat 0), 0))])
/-- RoadHouseModel$CorridorCellsModel.cents -/
def sp202 : Nat × Nat × Sg := (0, 144, [(144, ((Int.ofNat 0), (Int.ofNat 0), 0))])
/-- RoadHouseModel$CorridorCellsModel.barred -/
def sp203 : Nat × Nat × Sg := (2, 144, [(144, ((Int.ofNat 0), (Int.ofNat 0), 0))])
/-- RoadHouseModel$CorridorCellsModel.values -/
def sp204 : Nat × Nat × Sg := (0, 576, [(576, ((Int.ofNat 0), (Int.ofNat 0), 0))])
/-- RoadHouseModel$CorridorCellsModel.marks -/
def sp205 : Nat × Nat × Sg := (0, 1152, [(1152, ((Int.ofNat 0), (Int.ofNat 0), 0))])
/-- RoadHouseModel$CorridorCellsModel.aboves -/
def sp206 : Nat × Nat × Sg := (0, 4, [(1, ((Int.ofNat 0), (Int.ofNat 0), 0)), (2, ((Int.ofNat 0), (Int.ofNat 0), 0)), (3, ((Int.ofNat 0), (Int.ofNat 0), 0)), (4, ((Int.ofNat 0), (Int.ofNat 0), 0))])
/-- RoadHouseModel$CorridorCellsModel.belows -/
def sp207 : Nat × Nat × Sg := (0, 4, [(1, ((Int.ofNat 1), (Int.ofNat 1), 0)), (2, ((Int.ofNat 1), (Int.ofNat 1), 0)), (3, ((Int.ofNat 1), (Int.ofNat 1), 0)), (4, ((Int.ofNat 1), (Int.ofNat 1), 0))])
/-- RoadHouseModel$CorridorCellsModel.best -/
def sp208 : Nat × Nat × Sg := (1, 88128, [(88128, ((Int.ofNat 0), (Int.ofNat 0), 0))])
/-- RoadHouseModel$CorridorCellsModel.bestTurns -/
def sp209 : Nat × Nat × Sg := (0, 88128, [(88128, ((Int.ofNat 0), (Int.ofNat 0), 0))])
/-- RoadHouseModel$CorridorCellsModel.bestMoves -/
def sp210 : Nat × Nat × Sg := (0, 88128, [(88128, ((Int.ofNat 0), (Int.ofNat 0), 0))])
/-- RoadHouseModel$CorridorCellsModel.known -/
def sp211 : Nat × Nat × Sg := (2, 88128, [(88128, ((Int.ofNat 0), (Int.ofNat 0), 0))])
/-- RoadHouseModel$CorridorCellsModel.shared -/
def sp212 : Nat × Nat × Sg := (2, 144, [(144, ((Int.ofNat 0), (Int.ofNat 0), 0))])
/-- RoadHouseModel$CorridorCellsModel.firsts -/
def sp213 : Nat × Nat × Sg := (0, 6, [(1, ((Int.ofNat 0), (Int.ofNat 0), 0)), (2, ((Int.ofNat 0), (Int.ofNat 0), 0)), (3, ((Int.ofNat 0), (Int.ofNat 0), 0)), (4, ((Int.ofNat 0), (Int.ofNat 0), 0)), (5, ((Int.ofNat 0), (Int.ofNat 0), 0)), (6, ((Int.ofNat 0), (Int.ofNat 0), 0))])
/-- RoadHouseModel$CorridorCellsModel.moves -/
def sp214 : Nat × Nat × Sg := (0, 6, [(1, ((Int.ofNat 0), (Int.ofNat 0), 0)), (2, ((Int.ofNat 0), (Int.ofNat 0), 0)), (3, ((Int.ofNat 0), (Int.ofNat 0), 0)), (4, ((Int.ofNat 0), (Int.ofNat 0), 0)), (5, ((Int.ofNat 0), (Int.ofNat 0), 0)), (6, ((Int.ofNat 0), (Int.ofNat 0), 0))])
/-- RoadHouseModel$CorridorCellsModel.headings -/
def sp215 : Nat × Nat × Sg := (3, 30000, [(30000, ((Int.ofNat 0), (Int.ofNat 0), 0))])
/-- RoadHouseModel.earth -/
def sp216 : Nat × Nat × Sg := (29, 0, [(1, ((Int.ofNat 0), (Int.ofNat 0), 0)), (2, ((Int.ofNat 0), (Int.ofNat 0), 0)), (3, ((Int.ofNat 2469), (Int.ofNat 2469), 217)), (4, ((Int.ofNat 2470), (Int.ofNat 2470), 218)), (5, ((Int.ofNat 2471), (Int.ofNat 2471), 219)), (6, ((Int.ofNat 2472), (Int.ofNat 2472), 220)), (7, ((Int.ofNat 0), (Int.ofNat 0), 0)), (8, ((Int.ofNat 2473), (Int.ofNat 2473), 221)), (9, ((Int.ofNat 2474), (Int.ofNat 2474), 222)), (10, ((Int.ofNat 0), (Int.ofNat 0), 0)), (11, ((Int.ofNat 2475), (Int.ofNat 2475), 223)), (12, ((Int.ofNat 2476), (Int.ofNat 2476), 224)), (13, ((Int.ofNat 2477), (Int.ofNat 2477), 225)), (14, ((Int.ofNat 0), (Int.ofNat 0), 0)), (15, ((Int.ofNat 2478), (Int.ofNat 2478), 226)), (16, ((Int.ofNat 2479), (Int.ofNat 2479), 227)), (17, ((Int.ofNat 2480), (Int.ofNat 2480), 228)), (18, ((Int.ofNat 2481), (Int.ofNat 2481), 229)), (19, ((Int.ofNat 2482), (Int.ofNat 2482), 230)), (20, ((Int.ofNat 2483), (Int.ofNat 2483), 231)), (21, ((Int.ofNat 2484), (Int.ofNat 2484), 232)), (22, ((Int.ofNat 2485), (Int.ofNat 2485), 233)), (23, ((Int.ofNat 0), (Int.ofNat 0), 0)), (24, ((Int.ofNat 2486), (Int.ofNat 2486), 234)), (25, ((Int.ofNat 2487), (Int.ofNat 2487), 235)), (26, ((Int.ofNat 2488), (Int.ofNat 2488), 236)), (27, ((Int.ofNat 2489), (Int.ofNat 2489), 237)), (28, ((Int.ofNat 2490), (Int.ofNat 2490), 238)), (29, ((Int.ofNat 2491), (Int.ofNat 2491), 239)), (30, ((Int.ofNat 2492), (Int.ofNat 2492), 240)), (31, ((Int.ofNat 2493), (Int.ofNat 2493), 241)), (32, ((Int.ofNat 0), (Int.ofNat 0), 0)), (33, ((Int.ofNat 0), (Int.ofNat 0), 0)), (34, ((Int.ofNat 0), (Int.ofNat 0), 0)), (35, ((Int.ofNat 0), (Int.ofNat 0), 0)), (36, ((Int.ofNat 0), (Int.ofNat 0), 0)), (37, ((Int.ofNat 0), (Int.ofNat 0), 0)), (38, ((Int.ofNat 2494), (Int.ofNat 2494), 242))])
/-- RoadHouseModel$HaulFlowsModel.cutVolume -/
def sp217 : Nat × Nat × Sg := (0, 8, [(1, ((Int.ofNat 0), (Int.ofNat 0), 0)), (2, ((Int.ofNat 0), (Int.ofNat 0), 0)), (3, ((Int.ofNat 0), (Int.ofNat 0), 0)), (4, ((Int.ofNat 0), (Int.ofNat 0), 0)), (5, ((Int.ofNat 0), (Int.ofNat 0), 0)), (6, ((Int.ofNat 0), (Int.ofNat 0), 0)), (7, ((Int.ofNat 0), (Int.ofNat 0), 0)), (8, ((Int.ofNat 0), (Int.ofNat 0), 0))])
/-- RoadHouseModel$HaulFlowsModel.cutKind -/
def sp218 : Nat × Nat × Sg := (0, 8, [(1, ((Int.ofNat 0), (Int.ofNat 0), 0)), (2, ((Int.ofNat 0), (Int.ofNat 0), 0)), (3, ((Int.ofNat 0), (Int.ofNat 0), 0)), (4, ((Int.ofNat 0), (Int.ofNat 0), 0)), (5, ((Int.ofNat 0), (Int.ofNat 0), 0)), (6, ((Int.ofNat 0), (Int.ofNat 0), 0)), (7, ((Int.ofNat 0), (Int.ofNat 0), 0)), (8, ((Int.ofNat 0), (Int.ofNat 0), 0))])
/-- RoadHouseModel$HaulFlowsModel.cutWeek -/
def sp219 : Nat × Nat × Sg := (0, 8, [(1, ((Int.ofNat 0), (Int.ofNat 0), 0)), (2, ((Int.ofNat 0), (Int.ofNat 0), 0)), (3, ((Int.ofNat 0), (Int.ofNat 0), 0)), (4, ((Int.ofNat 0), (Int.ofNat 0), 0)), (5, ((Int.ofNat 0), (Int.ofNat 0), 0)), (6, ((Int.ofNat 0), (Int.ofNat 0), 0)), (7, ((Int.ofNat 0), (Int.ofNat 0), 0)), (8, ((Int.ofNat 0), (Int.ofNat 0), 0))])
/-- RoadHouseModel$HaulFlowsModel.cutMetre -/
def sp220 : Nat × Nat × Sg := (0, 8, [(1, ((Int.ofNat 0), (Int.ofNat 0), 0)), (2, ((Int.ofNat 0), (Int.ofNat 0), 0)), (3, ((Int.ofNat 0), (Int.ofNat 0), 0)), (4, ((Int.ofNat 0), (Int.ofNat 0), 0)), (5, ((Int.ofNat 0), (Int.ofNat 0), 0)), (6, ((Int.ofNat 0), (Int.ofNat 0), 0)), (7, ((Int.ofNat 0), (Int.ofNat 0), 0)), (8, ((Int.ofNat 0), (Int.ofNat 0), 0))])
/-- RoadHouseModel$HaulFlowsModel.pitMetre -/
def sp221 : Nat × Nat × Sg := (0, 4, [(1, ((Int.ofNat 0), (Int.ofNat 0), 0)), (2, ((Int.ofNat 0), (Int.ofNat 0), 0)), (3, ((Int.ofNat 0), (Int.ofNat 0), 0)), (4, ((Int.ofNat 0), (Int.ofNat 0), 0))])
/-- RoadHouseModel$HaulFlowsModel.pitCents -/
def sp222 : Nat × Nat × Sg := (0, 4, [(1, ((Int.ofNat 0), (Int.ofNat 0), 0)), (2, ((Int.ofNat 0), (Int.ofNat 0), 0)), (3, ((Int.ofNat 0), (Int.ofNat 0), 0)), (4, ((Int.ofNat 0), (Int.ofNat 0), 0))])
/-- RoadHouseModel$HaulFlowsModel.fillVolume -/
def sp223 : Nat × Nat × Sg := (0, 8, [(1, ((Int.ofNat 0), (Int.ofNat 0), 0)), (2, ((Int.ofNat 0), (Int.ofNat 0), 0)), (3, ((Int.ofNat 0), (Int.ofNat 0), 0)), (4, ((Int.ofNat 0), (Int.ofNat 0), 0)), (5, ((Int.ofNat 0), (Int.ofNat 0), 0)), (6, ((Int.ofNat 0), (Int.ofNat 0), 0)), (7, ((Int.ofNat 0), (Int.ofNat 0), 0)), (8, ((Int.ofNat 0), (Int.ofNat 0), 0))])
/-- RoadHouseModel$HaulFlowsModel.fillWeek -/
def sp224 : Nat × Nat × Sg := (0, 8, [(1, ((Int.ofNat 0), (Int.ofNat 0), 0)), (2, ((Int.ofNat 0), (Int.ofNat 0), 0)), (3, ((Int.ofNat 0), (Int.ofNat 0), 0)), (4, ((Int.ofNat 0), (Int.ofNat 0), 0)), (5, ((Int.ofNat 0), (Int.ofNat 0), 0)), (6, ((Int.ofNat 0), (Int.ofNat 0), 0)), (7, ((Int.ofNat 0), (Int.ofNat 0), 0)), (8, ((Int.ofNat 0), (Int.ofNat 0), 0))])
/-- RoadHouseModel$HaulFlowsModel.fillMetre -/
def sp225 : Nat × Nat × Sg := (0, 8, [(1, ((Int.ofNat 0), (Int.ofNat 0), 0)), (2, ((Int.ofNat 0), (Int.ofNat 0), 0)), (3, ((Int.ofNat 0), (Int.ofNat 0), 0)), (4, ((Int.ofNat 0), (Int.ofNat 0), 0)), (5, ((Int.ofNat 0), (Int.ofNat 0), 0)), (6, ((Int.ofNat 0), (Int.ofNat 0), 0)), (7, ((Int.ofNat 0), (Int.ofNat 0), 0)), (8, ((Int.ofNat 0), (Int.ofNat 0), 0))])
/-- RoadHouseModel$HaulFlowsModel.wayFrom -/
def sp226 : Nat × Nat × Sg := (0, 6, [(1, ((Int.ofNat 0), (Int.ofNat 0), 0)), (2, ((Int.ofNat 0), (Int.ofNat 0), 0)), (3, ((Int.ofNat 0), (Int.ofNat 0), 0)), (4, ((Int.ofNat 0), (Int.ofNat 0), 0)), (5, ((Int.ofNat 0), (Int.ofNat 0), 0)), (6, ((Int.ofNat 0), (Int.ofNat 0), 0))])
/-- RoadHouseModel$HaulFlowsModel.wayTo -/
def sp227 : Nat × Nat × Sg := (0, 6, [(1, ((Int.ofNat 0), (Int.ofNat 0), 0)), (2, ((Int.ofNat 0), (Int.ofNat 0), 0)), (3, ((Int.ofNat 0), (Int.ofNat 0), 0)), (4, ((Int.ofNat 0), (Int.ofNat 0), 0)), (5, ((Int.ofNat 0), (Int.ofNat 0), 0)), (6, ((Int.ofNat 0), (Int.ofNat 0), 0))])
/-- RoadHouseModel$HaulFlowsModel.wayCents -/
def sp228 : Nat × Nat × Sg := (0, 6, [(1, ((Int.ofNat 0), (Int.ofNat 0), 0)), (2, ((Int.ofNat 0), (Int.ofNat 0), 0)), (3, ((Int.ofNat 0), (Int.ofNat 0), 0)), (4, ((Int.ofNat 0), (Int.ofNat 0), 0)), (5, ((Int.ofNat 0), (Int.ofNat 0), 0)), (6, ((Int.ofNat 0), (Int.ofNat 0), 0))])
/-- RoadHouseModel$HaulFlowsModel.barred -/
def sp229 : Nat × Nat × Sg := (2, 72, [(72, ((Int.ofNat 0), (Int.ofNat 0), 0))])
/-- RoadHouseModel$HaulFlowsModel.above -/
def sp230 : Nat × Nat × Sg := (1, 4, [(1, ((Int.ofNat 1), (Int.ofNat 1), 0)), (2, ((Int.ofNat 1), (Int.ofNat 1), 0)), (3, ((Int.ofNat 1), (Int.ofNat 1), 0)), (4, ((Int.ofNat 1), (Int.ofNat 1), 0))])
/-- RoadHouseModel$HaulFlowsModel.below -/
def sp231 : Nat × Nat × Sg := (1, 4, [(1, ((Int.ofNat 1), (Int.ofNat 1), 0)), (2, ((Int.ofNat 1), (Int.ofNat 1), 0)), (3, ((Int.ofNat 1), (Int.ofNat 1), 0)), (4, ((Int.ofNat 1), (Int.ofNat 1), 0))])
/-- RoadHouseModel$HaulFlowsModel.unfit -/
def sp232 : Nat × Nat × Sg := (2, 32, [(32, ((Int.ofNat 0), (Int.ofNat 0), 0))])
/-- RoadHouseModel$HaulFlowsModel.mosts -/
def sp233 : Nat × Nat × Sg := (1, 12, [(1, ((Int.ofNat 1125899906842624), (Int.ofNat 1125899906842624), 0)), (2, ((Int.ofNat 1125899906842624), (Int.ofNat 1125899906842624), 0)), (3, ((Int.ofNat 1125899906842624), (Int.ofNat 1125899906842624), 0)), (4, ((Int.ofNat 1125899906842624), (Int.ofNat 1125899906842624), 0)), (5, ((Int.ofNat 1125899906842624), (Int.ofNat 1125899906842624), 0)), (6, ((Int.ofNat 1125899906842624), (Int.ofNat 1125899906842624), 0)), (7, ((Int.ofNat 1125899906842624), (Int.ofNat 1125899906842624), 0)), (8, ((Int.ofNat 1125899906842624), (Int.ofNat 1125899906842624), 0)), (9, ((Int.ofNat 1125899906842624), (Int.ofNat 1125899906842624), 0)), (10, ((Int.ofNat 1125899906842624), (Int.ofNat 1125899906842624), 0)), (11, ((Int.ofNat 1125899906842624), (Int.ofNat 1125899906842624), 0)), (12, ((Int.ofNat 1125899906842624), (Int.ofNat 1125899906842624), 0))])
/-- RoadHouseModel$HaulFlowsModel.begin -/
def sp234 : Nat × Nat × Sg := (0, 140, [(140, ((Int.ofNat 0), (Int.ofNat 0), 0))])
/-- RoadHouseModel$HaulFlowsModel.finish -/
def sp235 : Nat × Nat × Sg := (0, 140, [(140, ((Int.ofNat 0), (Int.ofNat 0), 0))])
/-- RoadHouseModel$HaulFlowsModel.most -/
def sp236 : Nat × Nat × Sg := (1, 140, [(140, ((Int.ofNat 0), (Int.ofNat 0), 0))])
/-- RoadHouseModel$HaulFlowsModel.price -/
def sp237 : Nat × Nat × Sg := (1, 140, [(140, ((Int.ofNat 0), (Int.ofNat 0), 0))])
/-- RoadHouseModel$HaulFlowsModel.flow -/
def sp238 : Nat × Nat × Sg := (1, 140, [(140, ((Int.ofNat 0), (Int.ofNat 0), 0))])
/-- RoadHouseModel$HaulFlowsModel.done -/
def sp239 : Nat × Nat × Sg := (2, 140, [(140, ((Int.ofNat 0), (Int.ofNat 0), 0))])
/-- RoadHouseModel$HaulFlowsModel.far -/
def sp240 : Nat × Nat × Sg := (1, 34, [(34, ((Int.ofNat 0), (Int.ofNat 0), 0))])
/-- RoadHouseModel$HaulFlowsModel.by -/
def sp241 : Nat × Nat × Sg := (0, 34, [(34, ((Int.ofNat 0), (Int.ofNat 0), 0))])
/-- RoadHouseModel$HaulFlowsModel.plan -/
def sp242 : Nat × Nat × Sg := (1, 96, [(96, ((Int.ofNat 0), (Int.ofNat 0), 0))])
/-- RoadHouseModel.beams -/
def sp243 : Nat × Nat × Sg := (30, 0, [(1, ((Int.ofNat 0), (Int.ofNat 0), 0)), (2, ((Int.ofNat 2496), (Int.ofNat 2496), 244)), (3, ((Int.ofNat 2497), (Int.ofNat 2497), 245)), (4, ((Int.ofNat 1), (Int.ofNat 1), 0)), (5, ((Int.ofNat 2498), (Int.ofNat 2498), 246)), (6, ((Int.ofNat 2499), (Int.ofNat 2499), 247)), (7, ((Int.ofNat 2500), (Int.ofNat 2500), 248)), (8, ((Int.ofNat 2501), (Int.ofNat 2501), 249)), (9, ((Int.ofNat 2502), (Int.ofNat 2502), 250)), (10, ((Int.ofNat 2503), (Int.ofNat 2503), 251)), (11, ((Int.ofNat 0), (Int.ofNat 0), 0)), (12, ((Int.ofNat 2504), (Int.ofNat 2504), 252)), (13, ((Int.ofNat 0), (Int.ofNat 0), 0)), (14, ((Int.ofNat 2505), (Int.ofNat 2505), 253)), (15, ((Int.ofNat 2506), (Int.ofNat 2506), 254)), (16, ((Int.ofNat 2507), (Int.ofNat 2507), 255)), (17, ((Int.ofNat 0), (Int.ofNat 1), 0)), (18, ((Int.ofNat 0), (Int.ofNat 48), 0)), (19, ((Int.ofNat 0), (Int.ofNat 0), 0)), (20, ((Int.ofNat 2508), (Int.ofNat 2508), 256)), (21, ((Int.ofNat 0), (Int.ofNat 0), 0)), (22, ((Int.ofNat 2509), (Int.ofNat 2509), 257)), (23, ((Int.ofNat 2510), (Int.ofNat 2510), 258)), (24, ((Int.ofNat 2511), (Int.ofNat 2511), 259)), (25, ((Int.ofNat 2512), (Int.ofNat 2512), 260)), (26, ((Int.ofNat 2513), (Int.ofNat 2513), 261))])
/-- RoadHouseModel$InfluenceRowsModel.z -/
def sp244 : Nat × Nat × Sg := (0, 48300, [(48300, ((Int.ofNat 0), (Int.ofNat 16777215), 0))])
/-- RoadHouseModel$InfluenceRowsModel.signs -/
def sp245 : Nat × Nat × Sg := (0, 690, [(690, ((Int.negSucc 0), (Int.ofNat 1), 0))])
/-- RoadHouseModel$InfluenceRowsModel.lengths -/
def sp246 : Nat × Nat × Sg := (0, 3, [(1, ((Int.ofNat 1), (Int.ofNat 1), 0)), (2, ((Int.ofNat 0), (Int.ofNat 0), 0)), (3, ((Int.ofNat 0), (Int.ofNat 0), 0))])
/-- RoadHouseModel$InfluenceRowsModel.stiffs -/
def sp247 : Nat × Nat × Sg := (0, 3, [(1, ((Int.ofNat 1), (Int.ofNat 1), 0)), (2, ((Int.ofNat 0), (Int.ofNat 0), 0)), (3, ((Int.ofNat 0), (Int.ofNat 0), 0))])
/-- RoadHouseModel$InfluenceRowsModel.high -/
def sp248 : Nat × Nat × Sg := (2, 4, [(4, ((Int.ofNat 0), (Int.ofNat 1), 0))])
/-- RoadHouseModel$InfluenceRowsModel.turn -/
def sp249 : Nat × Nat × Sg := (2, 4, [(4, ((Int.ofNat 0), (Int.ofNat 1), 0))])
/-- RoadHouseModel$InfluenceRowsModel.hinges -/
def sp250 : Nat × Nat × Sg := (2, 6, [(6, ((Int.ofNat 0), (Int.ofNat 0), 0))])
/-- RoadHouseModel$InfluenceRowsModel.settles -/
def sp251 : Nat × Nat × Sg := (0, 4, [(1, ((Int.ofNat 0), (Int.ofNat 0), 0)), (2, ((Int.ofNat 0), (Int.ofNat 0), 0)), (3, ((Int.ofNat 0), (Int.ofNat 0), 0)), (4, ((Int.ofNat 0), (Int.ofNat 0), 0))])
/-- RoadHouseModel$InfluenceRowsModel.text -/
def sp252 : Nat × Nat × Sg := (0, 50, [(50, ((Int.ofNat 0), (Int.ofNat 0), 0))])
/-- RoadHouseModel$InfluenceRowsModel.rowWhat -/
def sp253 : Nat × Nat × Sg := (0, 8, [(1, ((Int.ofNat 0), (Int.ofNat 0), 0)), (2, ((Int.ofNat 0), (Int.ofNat 0), 0)), (3, ((Int.ofNat 0), (Int.ofNat 0), 0)), (4, ((Int.ofNat 0), (Int.ofNat 0), 0)), (5, ((Int.ofNat 0), (Int.ofNat 0), 0)), (6, ((Int.ofNat 0), (Int.ofNat 0), 0)), (7, ((Int.ofNat 0), (Int.ofNat 0), 0)), (8, ((Int.ofNat 0), (Int.ofNat 0), 0))])
/-- RoadHouseModel$InfluenceRowsModel.rowMember -/
def sp254 : Nat × Nat × Sg := (0, 8, [(1, ((Int.ofNat 0), (Int.ofNat 0), 0)), (2, ((Int.ofNat 0), (Int.ofNat 0), 0)), (3, ((Int.ofNat 0), (Int.ofNat 0), 0)), (4, ((Int.ofNat 0), (Int.ofNat 0), 0)), (5, ((Int.ofNat 0), (Int.ofNat 0), 0)), (6, ((Int.ofNat 0), (Int.ofNat 0), 0)), (7, ((Int.ofNat 0), (Int.ofNat 0), 0)), (8, ((Int.ofNat 0), (Int.ofNat 0), 0))])
/-- RoadHouseModel$InfluenceRowsModel.rowPlace -/
def sp255 : Nat × Nat × Sg := (0, 8, [(1, ((Int.ofNat 0), (Int.ofNat 0), 0)), (2, ((Int.ofNat 0), (Int.ofNat 0), 0)), (3, ((Int.ofNat 0), (Int.ofNat 0), 0)), (4, ((Int.ofNat 0), (Int.ofNat 0), 0)), (5, ((Int.ofNat 0), (Int.ofNat 0), 0)), (6, ((Int.ofNat 0), (Int.ofNat 0), 0)), (7, ((Int.ofNat 0), (Int.ofNat 0), 0)), (8, ((Int.ofNat 0), (Int.ofNat 0), 0))])
/-- RoadHouseModel$InfluenceRowsModel.tells -/
def sp256 : Nat × Nat × Sg := (0, 12, [(1, ((Int.ofNat 0), (Int.ofNat 0), 0)), (2, ((Int.ofNat 0), (Int.ofNat 0), 0)), (3, ((Int.ofNat 0), (Int.ofNat 0), 0)), (4, ((Int.ofNat 0), (Int.ofNat 0), 0)), (5, ((Int.ofNat 0), (Int.ofNat 0), 0)), (6, ((Int.ofNat 0), (Int.ofNat 0), 0)), (7, ((Int.ofNat 0), (Int.ofNat 0), 0)), (8, ((Int.ofNat 0), (Int.ofNat 0), 0)), (9, ((Int.ofNat 0), (Int.ofNat 0), 0)), (10, ((Int.ofNat 0), (Int.ofNat 0), 0)), (11, ((Int.ofNat 0), (Int.ofNat 0), 0)), (12, ((Int.ofNat 0), (Int.ofNat 0), 0))])
/-- RoadHouseModel$InfluenceRowsModel.readLength -/
def sp257 : Nat × Nat × Sg := (0, 3, [(1, ((Int.ofNat 0), (Int.ofNat 0), 0)), (2, ((Int.ofNat 0), (Int.ofNat 0), 0)), (3, ((Int.ofNat 0), (Int.ofNat 0), 0))])
/-- RoadHouseModel$InfluenceRowsModel.readStiff -/
def sp258 : Nat × Nat × Sg := (0, 3, [(1, ((Int.ofNat 0), (Int.ofNat 0), 0)), (2, ((Int.ofNat 0), (Int.ofNat 0), 0)), (3, ((Int.ofNat 0), (Int.ofNat 0), 0))])
/-- RoadHouseModel$InfluenceRowsModel.readHigh -/
def sp259 : Nat × Nat × Sg := (2, 4, [(4, ((Int.ofNat 0), (Int.ofNat 0), 0))])
/-- RoadHouseModel$InfluenceRowsModel.readTurn -/
def sp260 : Nat × Nat × Sg := (2, 4, [(4, ((Int.ofNat 0), (Int.ofNat 0), 0))])
/-- RoadHouseModel$InfluenceRowsModel.readHinge -/
def sp261 : Nat × Nat × Sg := (2, 6, [(6, ((Int.ofNat 0), (Int.ofNat 0), 0))])
/-- RoadHouseModel.trains -/
def sp262 : Nat × Nat × Sg := (35, 0, [(1, ((Int.ofNat 2515), (Int.ofNat 2515), 263)), (2, ((Int.ofNat 2516), (Int.ofNat 2516), 264)), (3, ((Int.ofNat 0), (Int.ofNat 0), 0)), (4, ((Int.ofNat 2517), (Int.ofNat 2517), 265)), (5, ((Int.ofNat 2518), (Int.ofNat 2518), 266)), (6, ((Int.ofNat 2519), (Int.ofNat 2519), 267)), (7, ((Int.ofNat 0), (Int.ofNat 0), 0)), (8, ((Int.ofNat 0), (Int.ofNat 0), 0)), (9, ((Int.ofNat 2520), (Int.ofNat 2520), 268)), (10, ((Int.ofNat 2521), (Int.ofNat 2521), 269)), (11, ((Int.ofNat 2522), (Int.ofNat 2522), 270)), (12, ((Int.ofNat 2523), (Int.ofNat 2523), 271)), (13, ((Int.ofNat 2524), (Int.ofNat 2524), 272)), (14, ((Int.ofNat 0), (Int.ofNat 0), 0)), (15, ((Int.ofNat 0), (Int.ofNat 0), 0)), (16, ((Int.ofNat 0), (Int.ofNat 0), 0)), (17, ((Int.ofNat 0), (Int.ofNat 0), 0)), (18, ((Int.ofNat 0), (Int.ofNat 0), 0)), (19, ((Int.ofNat 0), (Int.ofNat 0), 0)), (20, ((Int.ofNat 0), (Int.ofNat 0), 0)), (21, ((Int.ofNat 0), (Int.ofNat 0), 0)), (22, ((Int.ofNat 0), (Int.ofNat 0), 0)), (23, ((Int.ofNat 2525), (Int.ofNat 2525), 273)), (24, ((Int.ofNat 2526), (Int.ofNat 2526), 274)), (25, ((Int.ofNat 0), (Int.ofNat 0), 0)), (26, ((Int.ofNat 2527), (Int.ofNat 2527), 275)), (27, ((Int.ofNat 0), (Int.ofNat 0), 0)), (28, ((Int.ofNat 2528), (Int.ofNat 2528), 276)), (29, ((Int.ofNat 2529), (Int.ofNat 2529), 277)), (30, ((Int.ofNat 2530), (Int.ofNat 2530), 278)), (31, ((Int.ofNat 2531), (Int.ofNat 2531), 279)), (32, ((Int.ofNat 0), (Int.ofNat 0), 0)), (33, ((Int.ofNat 2532), (Int.ofNat 2532), 280)), (34, ((Int.ofNat 0), (Int.ofNat 0), 0)), (35, ((Int.ofNat 2533), (Int.ofNat 2533), 281))])
/-- RoadHouseModel$TrainWorstModel.z -/
def sp263 : Nat × Nat × Sg := (0, 4200, [(4200, ((Int.ofNat 0), (Int.ofNat 0), 0))])
/-- RoadHouseModel$TrainWorstModel.signs -/
def sp264 : Nat × Nat × Sg := (0, 30, [(30, ((Int.ofNat 0), (Int.ofNat 0), 0))])
/-- RoadHouseModel$TrainWorstModel.at -/
def sp265 : Nat × Nat × Sg := (0, 14, [(1, ((Int.ofNat 0), (Int.ofNat 0), 0)), (2, ((Int.ofNat 0), (Int.ofNat 0), 0)), (3, ((Int.ofNat 0), (Int.ofNat 0), 0)), (4, ((Int.ofNat 0), (Int.ofNat 0), 0)), (5, ((Int.ofNat 0), (Int.ofNat 0), 0)), (6, ((Int.ofNat 0), (Int.ofNat 0), 0)), (7, ((Int.ofNat 0), (Int.ofNat 0), 0)), (8, ((Int.ofNat 0), (Int.ofNat 0), 0)), (9, ((Int.ofNat 0), (Int.ofNat 0), 0)), (10, ((Int.ofNat 0), (Int.ofNat 0), 0)), (11, ((Int.ofNat 0), (Int.ofNat 0), 0)), (12, ((Int.ofNat 0), (Int.ofNat 0), 0)), (13, ((Int.ofNat 0), (Int.ofNat 0), 0)), (14, ((Int.ofNat 0), (Int.ofNat 0), 0))])
/-- RoadHouseModel$TrainWorstModel.above -/
def sp266 : Nat × Nat × Sg := (1, 14, [(1, ((Int.ofNat 0), (Int.ofNat 0), 0)), (2, ((Int.ofNat 0), (Int.ofNat 0), 0)), (3, ((Int.ofNat 0), (Int.ofNat 0), 0)), (4, ((Int.ofNat 0), (Int.ofNat 0), 0)), (5, ((Int.ofNat 0), (Int.ofNat 0), 0)), (6, ((Int.ofNat 0), (Int.ofNat 0), 0)), (7, ((Int.ofNat 0), (Int.ofNat 0), 0)), (8, ((Int.ofNat 0), (Int.ofNat 0), 0)), (9, ((Int.ofNat 0), (Int.ofNat 0), 0)), (10, ((Int.ofNat 0), (Int.ofNat 0), 0)), (11, ((Int.ofNat 0), (Int.ofNat 0), 0)), (12, ((Int.ofNat 0), (Int.ofNat 0), 0)), (13, ((Int.ofNat 0), (Int.ofNat 0), 0)), (14, ((Int.ofNat 0), (Int.ofNat 0), 0))])
/-- RoadHouseModel$TrainWorstModel.below -/
def sp267 : Nat × Nat × Sg := (1, 14, [(1, ((Int.ofNat 0), (Int.ofNat 0), 0)), (2, ((Int.ofNat 0), (Int.ofNat 0), 0)), (3, ((Int.ofNat 0), (Int.ofNat 0), 0)), (4, ((Int.ofNat 0), (Int.ofNat 0), 0)), (5, ((Int.ofNat 0), (Int.ofNat 0), 0)), (6, ((Int.ofNat 0), (Int.ofNat 0), 0)), (7, ((Int.ofNat 0), (Int.ofNat 0), 0)), (8, ((Int.ofNat 0), (Int.ofNat 0), 0)), (9, ((Int.ofNat 0), (Int.ofNat 0), 0)), (10, ((Int.ofNat 0), (Int.ofNat 0), 0)), (11, ((Int.ofNat 0), (Int.ofNat 0), 0)), (12, ((Int.ofNat 0), (Int.ofNat 0), 0)), (13, ((Int.ofNat 0), (Int.ofNat 0), 0)), (14, ((Int.ofNat 0), (Int.ofNat 0), 0))])
/-- RoadHouseModel$TrainWorstModel.axles -/
def sp268 : Nat × Nat × Sg := (0, 6, [(1, ((Int.ofNat 0), (Int.ofNat 0), 0)), (2, ((Int.ofNat 0), (Int.ofNat 0), 0)), (3, ((Int.ofNat 0), (Int.ofNat 0), 0)), (4, ((Int.ofNat 0), (Int.ofNat 0), 0)), (5, ((Int.ofNat 0), (Int.ofNat 0), 0)), (6, ((Int.ofNat 0), (Int.ofNat 0), 0))])
/-- RoadHouseModel$TrainWorstModel.behind -/
def sp269 : Nat × Nat × Sg := (0, 30, [(30, ((Int.ofNat 0), (Int.ofNat 0), 0))])
/-- RoadHouseModel$TrainWorstModel.loads -/
def sp270 : Nat × Nat × Sg := (0, 30, [(30, ((Int.ofNat 0), (Int.ofNat 0), 0))])
/-- RoadHouseModel$TrainWorstModel.least -/
def sp271 : Nat × Nat × Sg := (0, 6, [(1, ((Int.ofNat 0), (Int.ofNat 0), 0)), (2, ((Int.ofNat 0), (Int.ofNat 0), 0)), (3, ((Int.ofNat 0), (Int.ofNat 0), 0)), (4, ((Int.ofNat 0), (Int.ofNat 0), 0)), (5, ((Int.ofNat 0), (Int.ofNat 0), 0)), (6, ((Int.ofNat 0), (Int.ofNat 0), 0))])
/-- RoadHouseModel$TrainWorstModel.most -/
def sp272 : Nat × Nat × Sg := (0, 6, [(1, ((Int.ofNat 0), (Int.ofNat 0), 0)), (2, ((Int.ofNat 0), (Int.ofNat 0), 0)), (3, ((Int.ofNat 0), (Int.ofNat 0), 0)), (4, ((Int.ofNat 0), (Int.ofNat 0), 0)), (5, ((Int.ofNat 0), (Int.ofNat 0), 0)), (6, ((Int.ofNat 0), (Int.ofNat 0), 0))])
/-- RoadHouseModel$TrainWorstModel.laneAbove -/
def sp273 : Nat × Nat × Sg := (1, 4, [(1, ((Int.ofNat 0), (Int.ofNat 0), 0)), (2, ((Int.ofNat 0), (Int.ofNat 0), 0)), (3, ((Int.ofNat 0), (Int.ofNat 0), 0)), (4, ((Int.ofNat 0), (Int.ofNat 0), 0))])
/-- RoadHouseModel$TrainWorstModel.laneBelow -/
def sp274 : Nat × Nat × Sg := (1, 4, [(1, ((Int.ofNat 0), (Int.ofNat 0), 0)), (2, ((Int.ofNat 0), (Int.ofNat 0), 0)), (3, ((Int.ofNat 0), (Int.ofNat 0), 0)), (4, ((Int.ofNat 0), (Int.ofNat 0), 0))])
/-- RoadHouseModel$TrainWorstModel.text -/
def sp275 : Nat × Nat × Sg := (0, 100, [(100, ((Int.ofNat 0), (Int.ofNat 0), 0))])
/-- RoadHouseModel$TrainWorstModel.terms -/
def sp276 : Nat × Nat × Sg := (0, 8, [(1, ((Int.ofNat 0), (Int.ofNat 0), 0)), (2, ((Int.ofNat 0), (Int.ofNat 0), 0)), (3, ((Int.ofNat 0), (Int.ofNat 0), 0)), (4, ((Int.ofNat 0), (Int.ofNat 0), 0)), (5, ((Int.ofNat 0), (Int.ofNat 0), 0)), (6, ((Int.ofNat 0), (Int.ofNat 0), 0)), (7, ((Int.ofNat 0), (Int.ofNat 0), 0)), (8, ((Int.ofNat 0), (Int.ofNat 0), 0))])
/-- RoadHouseModel$TrainWorstModel.term -/
def sp277 : Nat × Nat × Sg := (0, 144, [(144, ((Int.ofNat 0), (Int.ofNat 0), 0))])
/-- RoadHouseModel$TrainWorstModel.readTerms -/
def sp278 : Nat × Nat × Sg := (0, 8, [(1, ((Int.ofNat 0), (Int.ofNat 0), 0)), (2, ((Int.ofNat 0), (Int.ofNat 0), 0)), (3, ((Int.ofNat 0), (Int.ofNat 0), 0)), (4, ((Int.ofNat 0), (Int.ofNat 0), 0)), (5, ((Int.ofNat 0), (Int.ofNat 0), 0)), (6, ((Int.ofNat 0), (Int.ofNat 0), 0)), (7, ((Int.ofNat 0), (Int.ofNat 0), 0)), (8, ((Int.ofNat 0), (Int.ofNat 0), 0))])
/-- RoadHouseModel$TrainWorstModel.read -/
def sp279 : Nat × Nat × Sg := (0, 144, [(144, ((Int.ofNat 0), (Int.ofNat 0), 0))])
/-- RoadHouseModel$TrainWorstModel.places -/
def sp280 : Nat × Nat × Sg := (0, 80, [(80, ((Int.ofNat 0), (Int.ofNat 0), 0))])
/-- RoadHouseModel$TrainWorstModel.gap -/
def sp281 : Nat × Nat × Sg := (0, 80, [(80, ((Int.ofNat 0), (Int.ofNat 0), 0))])
/-- RoadHouseModel.stress -/
def sp282 : Nat × Nat × Sg := (34, 0, [(1, ((Int.ofNat 0), (Int.ofNat 0), 0)), (2, ((Int.ofNat 2535), (Int.ofNat 2535), 283)), (3, ((Int.ofNat 0), (Int.ofNat 0), 0)), (4, ((Int.ofNat 2536), (Int.ofNat 2536), 284)), (5, ((Int.ofNat 0), (Int.ofNat 0), 0)), (6, ((Int.ofNat 2537), (Int.ofNat 2537), 285)), (7, ((Int.ofNat 2538), (Int.ofNat 2538), 286)), (8, ((Int.ofNat 2539), (Int.ofNat 2539), 287)), (9, ((Int.ofNat 2540), (Int.ofNat 2540), 288)), (10, ((Int.ofNat 2541), (Int.ofNat 2541), 289)), (11, ((Int.ofNat 2542), (Int.ofNat 2542), 290)), (12, ((Int.ofNat 2543), (Int.ofNat 2543), 291)), (13, ((Int.ofNat 1), (Int.ofNat 1), 0)), (14, ((Int.ofNat 1), (Int.ofNat 1), 0)), (15, ((Int.ofNat 1), (Int.ofNat 1), 0)), (16, ((Int.ofNat 2544), (Int.ofNat 2544), 292)), (17, ((Int.ofNat 0), (Int.ofNat 0), 0)), (18, ((Int.ofNat 2545), (Int.ofNat 2545), 293)), (19, ((Int.ofNat 0), (Int.ofNat 18446744073709551615), 0)), (20, ((Int.ofNat 0), (Int.ofNat 0), 0)), (21, ((Int.ofNat 2546), (Int.ofNat 2546), 294)), (22, ((Int.ofNat 2547), (Int.ofNat 2547), 295)), (23, ((Int.ofNat 2548), (Int.ofNat 2548), 295)), (24, ((Int.ofNat 2549), (Int.ofNat 2549), 295)), (25, ((Int.ofNat 2550), (Int.ofNat 2550), 296))])
/-- RoadHouseModel$StressTurnsModel.row -/
def sp283 : Nat × Nat × Sg := (0, 300, [(300, ((Int.ofNat 0), (Int.ofNat 0), 0))])
/-- RoadHouseModel$StressTurnsModel.point -/
def sp284 : Nat × Nat × Sg := (0, 301, [(301, ((Int.ofNat 0), (Int.ofNat 0), 0))])
/-- RoadHouseModel$StressTurnsModel.from -/
def sp285 : Nat × Nat × Sg := (0, 300, [(300, ((Int.ofNat 0), (Int.ofNat 0), 0))])
/-- RoadHouseModel$StressTurnsModel.to -/
def sp286 : Nat × Nat × Sg := (0, 300, [(300, ((Int.ofNat 0), (Int.ofNat 0), 0))])
/-- RoadHouseModel$StressTurnsModel.when -/
def sp287 : Nat × Nat × Sg := (0, 300, [(300, ((Int.ofNat 0), (Int.ofNat 0), 0))])
/-- RoadHouseModel$StressTurnsModel.lines -/
def sp288 : Nat × Nat × Sg := (0, 8, [(1, ((Int.ofNat 0), (Int.ofNat 0), 0)), (2, ((Int.ofNat 0), (Int.ofNat 0), 0)), (3, ((Int.ofNat 0), (Int.ofNat 0), 0)), (4, ((Int.ofNat 0), (Int.ofNat 0), 0)), (5, ((Int.ofNat 0), (Int.ofNat 0), 0)), (6, ((Int.ofNat 0), (Int.ofNat 0), 0)), (7, ((Int.ofNat 0), (Int.ofNat 0), 0)), (8, ((Int.ofNat 0), (Int.ofNat 0), 0))])
/-- RoadHouseModel$StressTurnsModel.ranges -/
def sp289 : Nat × Nat × Sg := (1, 32, [(32, ((Int.ofNat 0), (Int.ofNat 0), 0))])
/-- RoadHouseModel$StressTurnsModel.cycles -/
def sp290 : Nat × Nat × Sg := (1, 32, [(32, ((Int.ofNat 0), (Int.ofNat 0), 0))])
/-- RoadHouseModel$StressTurnsModel.cutOffs -/
def sp291 : Nat × Nat × Sg := (1, 8, [(1, ((Int.ofNat 0), (Int.ofNat 0), 0)), (2, ((Int.ofNat 0), (Int.ofNat 0), 0)), (3, ((Int.ofNat 0), (Int.ofNat 0), 0)), (4, ((Int.ofNat 0), (Int.ofNat 0), 0)), (5, ((Int.ofNat 0), (Int.ofNat 0), 0)), (6, ((Int.ofNat 0), (Int.ofNat 0), 0)), (7, ((Int.ofNat 0), (Int.ofNat 0), 0)), (8, ((Int.ofNat 0), (Int.ofNat 0), 0))])
/-- RoadHouseModel$StressTurnsModel.costs -/
def sp292 : Nat × Nat × Sg := (1, 2, [(1, ((Int.ofNat 0), (Int.ofNat 0), 0)), (2, ((Int.ofNat 0), (Int.ofNat 0), 0))])
/-- RoadHouseModel$StressTurnsModel.history -/
def sp293 : Nat × Nat × Sg := (0, 80, [(80, ((Int.ofNat 0), (Int.ofNat 0), 0))])
/-- RoadHouseModel$StressTurnsModel.halves -/
def sp294 : Nat × Nat × Sg := (0, 32, [(32, ((Int.ofNat 0), (Int.ofNat 0), 0))])
/-- RoadHouseModel$StressTurnsModel.upper -/
def sp295 : Nat × Nat × Sg := (0, 64, [(64, ((Int.ofNat 0), (Int.ofNat 0), 0))])
/-- RoadHouseModel$StressTurnsModel.plans -/
def sp296 : Nat × Nat × Sg := (1, 961, [(961, ((Int.ofNat 0), (Int.ofNat 0), 0))])
/-- RoadHouseModel.signals -/
def sp297 : Nat × Nat × Sg := (32, 0, [(1, ((Int.ofNat 0), (Int.ofNat 0), 0)), (2, ((Int.ofNat 1), (Int.ofNat 1), 0)), (3, ((Int.ofNat 2552), (Int.ofNat 2552), 298)), (4, ((Int.ofNat 2553), (Int.ofNat 2553), 299)), (5, ((Int.ofNat 2554), (Int.ofNat 2554), 300)), (6, ((Int.ofNat 2555), (Int.ofNat 2555), 301)), (7, ((Int.ofNat 0), (Int.ofNat 0), 0)), (8, ((Int.ofNat 2556), (Int.ofNat 2556), 302)), (9, ((Int.ofNat 2557), (Int.ofNat 2557), 303)), (10, ((Int.ofNat 2558), (Int.ofNat 2558), 304)), (11, ((Int.ofNat 0), (Int.ofNat 0), 0)), (12, ((Int.ofNat 2559), (Int.ofNat 2559), 305)), (13, ((Int.ofNat 2560), (Int.ofNat 2560), 306)), (14, ((Int.ofNat 2561), (Int.ofNat 2561), 307)), (15, ((Int.ofNat 0), (Int.ofNat 0), 0)), (16, ((Int.ofNat 0), (Int.ofNat 0), 0)), (17, ((Int.ofNat 2562), (Int.ofNat 2562), 308)), (18, ((Int.ofNat 2563), (Int.ofNat 2563), 309)), (19, ((Int.ofNat 0), (Int.ofNat 0), 0)), (20, ((Int.ofNat 0), (Int.ofNat 0), 0)), (21, ((Int.negSucc 0), (Int.negSucc 0), 0)), (22, ((Int.ofNat 0), (Int.ofNat 0), 0)), (23, ((Int.ofNat 2564), (Int.ofNat 2564), 310)), (24, ((Int.ofNat 2565), (Int.ofNat 2565), 311)), (25, ((Int.ofNat 2566), (Int.ofNat 2566), 312)), (26, ((Int.ofNat 2567), (Int.ofNat 2567), 313)), (27, ((Int.ofNat 2568), (Int.ofNat 2568), 314)), (28, ((Int.ofNat 0), (Int.ofNat 0), 0)), (29, ((Int.ofNat 0), (Int.ofNat 0), 0)), (30, ((Int.ofNat 2569), (Int.ofNat 2569), 315))])
/-- RoadHouseModel$SignalProofsModel.least -/
def sp298 : Nat × Nat × Sg := (0, 6, [(1, ((Int.ofNat 1), (Int.ofNat 1), 0)), (2, ((Int.ofNat 1), (Int.ofNat 1), 0)), (3, ((Int.ofNat 1), (Int.ofNat 1), 0)), (4, ((Int.ofNat 1), (Int.ofNat 1), 0)), (5, ((Int.ofNat 1), (Int.ofNat 1), 0)), (6, ((Int.ofNat 1), (Int.ofNat 1), 0))])
/-- RoadHouseModel$SignalProofsModel.most -/
def sp299 : Nat × Nat × Sg := (0, 6, [(1, ((Int.ofNat 31), (Int.ofNat 31), 0)), (2, ((Int.ofNat 31), (Int.ofNat 31), 0)), (3, ((Int.ofNat 31), (Int.ofNat 31), 0)), (4, ((Int.ofNat 31), (Int.ofNat 31), 0)), (5, ((Int.ofNat 31), (Int.ofNat 31), 0)), (6, ((Int.ofNat 31), (Int.ofNat 31), 0))])
/-- RoadHouseModel$SignalProofsModel.clashes -/
def sp300 : Nat × Nat × Sg := (2, 36, [(36, ((Int.ofNat 0), (Int.ofNat 0), 0))])
/-- RoadHouseModel$SignalProofsModel.clears -/
def sp301 : Nat × Nat × Sg := (0, 36, [(36, ((Int.ofNat 0), (Int.ofNat 0), 0))])
/-- RoadHouseModel$SignalProofsModel.phases -/
def sp302 : Nat × Nat × Sg := (0, 3, [(1, ((Int.ofNat 0), (Int.ofNat 0), 0)), (2, ((Int.ofNat 0), (Int.ofNat 0), 0)), (3, ((Int.ofNat 0), (Int.ofNat 0), 0))])
/-- RoadHouseModel$SignalProofsModel.told -/
def sp303 : Nat × Nat × Sg := (0, 45, [(45, ((Int.ofNat 0), (Int.ofNat 0), 0))])
/-- RoadHouseModel$SignalProofsModel.readPhase -/
def sp304 : Nat × Nat × Sg := (0, 15, [(1, ((Int.ofNat 0), (Int.ofNat 0), 0)), (2, ((Int.ofNat 0), (Int.ofNat 0), 0)), (3, ((Int.ofNat 0), (Int.ofNat 0), 0)), (4, ((Int.ofNat 0), (Int.ofNat 0), 0)), (5, ((Int.ofNat 0), (Int.ofNat 0), 0)), (6, ((Int.ofNat 0), (Int.ofNat 0), 0)), (7, ((Int.ofNat 0), (Int.ofNat 0), 0)), (8, ((Int.ofNat 0), (Int.ofNat 0), 0)), (9, ((Int.ofNat 0), (Int.ofNat 0), 0)), (10, ((Int.ofNat 0), (Int.ofNat 0), 0)), (11, ((Int.ofNat 0), (Int.ofNat 0), 0)), (12, ((Int.ofNat 0), (Int.ofNat 0), 0)), (13, ((Int.ofNat 0), (Int.ofNat 0), 0)), (14, ((Int.ofNat 0), (Int.ofNat 0), 0)), (15, ((Int.ofNat 0), (Int.ofNat 0), 0))])
/-- RoadHouseModel$SignalProofsModel.text -/
def sp305 : Nat × Nat × Sg := (0, 60, [(60, ((Int.ofNat 0), (Int.ofNat 0), 0))])
/-- RoadHouseModel$SignalProofsModel.machine -/
def sp306 : Nat × Nat × Sg := (0, 14, [(1, ((Int.ofNat 0), (Int.ofNat 0), 0)), (2, ((Int.ofNat 0), (Int.ofNat 0), 0)), (3, ((Int.ofNat 0), (Int.ofNat 0), 0)), (4, ((Int.ofNat 0), (Int.ofNat 0), 0)), (5, ((Int.ofNat 0), (Int.ofNat 0), 0)), (6, ((Int.ofNat 0), (Int.ofNat 0), 0)), (7, ((Int.ofNat 0), (Int.ofNat 0), 0)), (8, ((Int.ofNat 0), (Int.ofNat 0), 0)), (9, ((Int.ofNat 0), (Int.ofNat 0), 0)), (10, ((Int.ofNat 0), (Int.ofNat 0), 0)), (11, ((Int.ofNat 0), (Int.ofNat 0), 0)), (12, ((Int.ofNat 0), (Int.ofNat 0), 0)), (13, ((Int.ofNat 0), (Int.ofNat 0), 0)), (14, ((Int.ofNat 0), (Int.ofNat 0), 0))])
/-- RoadHouseModel$SignalProofsModel.state -/
def sp307 : Nat × Nat × Sg := (0, 14, [(1, ((Int.ofNat 0), (Int.ofNat 0), 0)), (2, ((Int.ofNat 0), (Int.ofNat 0), 0)), (3, ((Int.ofNat 0), (Int.ofNat 0), 0)), (4, ((Int.ofNat 0), (Int.ofNat 0), 0)), (5, ((Int.ofNat 0), (Int.ofNat 0), 0)), (6, ((Int.ofNat 0), (Int.ofNat 0), 0)), (7, ((Int.ofNat 0), (Int.ofNat 0), 0)), (8, ((Int.ofNat 0), (Int.ofNat 0), 0)), (9, ((Int.ofNat 0), (Int.ofNat 0), 0)), (10, ((Int.ofNat 0), (Int.ofNat 0), 0)), (11, ((Int.ofNat 0), (Int.ofNat 0), 0)), (12, ((Int.ofNat 0), (Int.ofNat 0), 0)), (13, ((Int.ofNat 0), (Int.ofNat 0), 0)), (14, ((Int.ofNat 0), (Int.ofNat 0), 0))])
/-- RoadHouseModel$SignalProofsModel.when -/
def sp308 : Nat × Nat × Sg := (0, 60, [(60, ((Int.ofNat 0), (Int.ofNat 0), 0))])
/-- RoadHouseModel$SignalProofsModel.what -/
def sp309 : Nat × Nat × Sg := (0, 60, [(60, ((Int.ofNat 0), (Int.ofNat 0), 0))])
/-- RoadHouseModel$SignalProofsModel.rows -/
def sp310 : Nat × Nat × Sg := (0, 5600, [(5600, ((Int.ofNat 0), (Int.ofNat 0), 0))])
/-- RoadHouseModel$SignalProofsModel.keys -/
def sp311 : Nat × Nat × Sg := (0, 400, [(400, ((Int.ofNat 0), (Int.ofNat 0), 0))])
/-- RoadHouseModel$SignalProofsModel.from -/
def sp312 : Nat × Nat × Sg := (0, 400, [(400, ((Int.ofNat 0), (Int.ofNat 0), 0))])
/-- RoadHouseModel$SignalProofsModel.by -/
def sp313 : Nat × Nat × Sg := (0, 400, [(400, ((Int.ofNat 0), (Int.ofNat 0), 0))])
/-- RoadHouseModel$SignalProofsModel.leads -/
def sp314 : Nat × Nat × Sg := (0, 4000, [(4000, ((Int.ofNat 0), (Int.ofNat 0), 0))])
/-- RoadHouseModel$SignalProofsModel.waits -/
def sp315 : Nat × Nat × Sg := (0, 400, [(400, ((Int.ofNat 0), (Int.ofNat 0), 0))])
/-- RoadHouseModel.cars -/
def sp316 : Nat × Nat × Sg := (33, 0, [(1, ((Int.ofNat 24), (Int.ofNat 24), 0)), (2, ((Int.ofNat 2571), (Int.ofNat 2571), 317)), (3, ((Int.ofNat 2572), (Int.ofNat 2572), 318)), (4, ((Int.ofNat 2573), (Int.ofNat 2573), 319)), (5, ((Int.ofNat 2574), (Int.ofNat 2574), 320)), (6, ((Int.ofNat 2575), (Int.ofNat 2575), 321)), (7, ((Int.ofNat 0), (Int.ofNat 0), 0)), (8, ((Int.ofNat 2576), (Int.ofNat 2576), 322)), (9, ((Int.ofNat 2577), (Int.ofNat 2577), 323)), (10, ((Int.ofNat 2578), (Int.ofNat 2578), 324)), (11, ((Int.ofNat 2579), (Int.ofNat 2579), 325)), (12, ((Int.ofNat 2580), (Int.ofNat 2580), 326)), (13, ((Int.ofNat 2581), (Int.ofNat 2581), 327)), (14, ((Int.ofNat 2582), (Int.ofNat 2582), 328)), (15, ((Int.ofNat 0), (Int.ofNat 0), 0)), (16, ((Int.ofNat 2583), (Int.ofNat 2583), 329)), (17, ((Int.ofNat 0), (Int.ofNat 0), 0)), (18, ((Int.ofNat 2584), (Int.ofNat 2584), 330)), (19, ((Int.ofNat 0), (Int.ofNat 0), 0)), (20, ((Int.ofNat 2585), (Int.ofNat 2585), 331)), (21, ((Int.ofNat 0), (Int.ofNat 0), 0)), (22, ((Int.ofNat 2586), (Int.ofNat 2586), 332)), (23, ((Int.ofNat 2587), (Int.ofNat 2587), 333)), (24, ((Int.ofNat 2588), (Int.ofNat 2588), 334)), (25, ((Int.ofNat 0), (Int.ofNat 0), 0)), (26, ((Int.ofNat 2589), (Int.ofNat 2589), 335)), (27, ((Int.ofNat 2590), (Int.ofNat 2590), 336)), (28, ((Int.ofNat 2591), (Int.ofNat 2591), 337)), (29, ((Int.ofNat 2592), (Int.ofNat 2592), 338)), (30, ((Int.ofNat 2593), (Int.ofNat 2593), 339)), (31, ((Int.ofNat 2594), (Int.ofNat 2594), 340)), (32, ((Int.ofNat 0), (Int.ofNat 0), 0))])
/-- RoadHouseModel$StreetCellsModel.room -/
def sp317 : Nat × Nat × Sg := (0, 24, [(24, ((Int.ofNat 0), (Int.ofNat 0), 0))])
/-- RoadHouseModel$StreetCellsModel.most -/
def sp318 : Nat × Nat × Sg := (0, 24, [(24, ((Int.ofNat 0), (Int.ofNat 0), 0))])
/-- RoadHouseModel$StreetCellsModel.speed -/
def sp319 : Nat × Nat × Sg := (0, 24, [(24, ((Int.ofNat 0), (Int.ofNat 0), 0))])
/-- RoadHouseModel$StreetCellsModel.least -/
def sp320 : Nat × Nat × Sg := (0, 24, [(24, ((Int.ofNat 0), (Int.ofNat 0), 0))])
/-- RoadHouseModel$StreetCellsModel.lane -/
def sp321 : Nat × Nat × Sg := (0, 24, [(24, ((Int.ofNat 0), (Int.ofNat 0), 0))])
/-- RoadHouseModel$StreetCellsModel.from -/
def sp322 : Nat × Nat × Sg := (0, 96, [(96, ((Int.ofNat 0), (Int.ofNat 0), 0))])
/-- RoadHouseModel$StreetCellsModel.to -/
def sp323 : Nat × Nat × Sg := (0, 96, [(96, ((Int.ofNat 0), (Int.ofNat 0), 0))])
/-- RoadHouseModel$StreetCellsModel.above -/
def sp324 : Nat × Nat × Sg := (0, 96, [(96, ((Int.ofNat 0), (Int.ofNat 0), 0))])
/-- RoadHouseModel$StreetCellsModel.below -/
def sp325 : Nat × Nat × Sg := (0, 96, [(96, ((Int.ofNat 0), (Int.ofNat 0), 0))])
/-- RoadHouseModel$StreetCellsModel.rank -/
def sp326 : Nat × Nat × Sg := (0, 96, [(96, ((Int.ofNat 0), (Int.ofNat 0), 0))])
/-- RoadHouseModel$StreetCellsModel.wanted -/
def sp327 : Nat × Nat × Sg := (0, 96, [(96, ((Int.ofNat 0), (Int.ofNat 0), 0))])
/-- RoadHouseModel$StreetCellsModel.taken -/
def sp328 : Nat × Nat × Sg := (0, 96, [(96, ((Int.ofNat 0), (Int.ofNat 0), 0))])
/-- RoadHouseModel$StreetCellsModel.setting -/
def sp329 : Nat × Nat × Sg := (0, 1200, [(1200, ((Int.ofNat 0), (Int.ofNat 0), 0))])
/-- RoadHouseModel$StreetCellsModel.entry -/
def sp330 : Nat × Nat × Sg := (0, 600, [(600, ((Int.ofNat 0), (Int.ofNat 0), 0))])
/-- RoadHouseModel$StreetCellsModel.measure -/
def sp331 : Nat × Nat × Sg := (0, 180, [(180, ((Int.ofNat 0), (Int.ofNat 0), 0))])
/-- RoadHouseModel$StreetCellsModel.rule -/
def sp332 : Nat × Nat × Sg := (0, 36, [(36, ((Int.ofNat 0), (Int.ofNat 0), 0))])
/-- RoadHouseModel$StreetCellsModel.now -/
def sp333 : Nat × Nat × Sg := (1, 10216, [(24, ((Int.ofNat 0), (Int.ofNat 0), 0)), (48, ((Int.ofNat 0), (Int.ofNat 0), 0)), (72, ((Int.ofNat 0), (Int.ofNat 0), 0)), (168, ((Int.ofNat 0), (Int.ofNat 0), 0)), (264, ((Int.ofNat 0), (Int.ofNat 0), 0)), (265, ((Int.ofNat 0), (Int.ofNat 0), 0)), (266, ((Int.ofNat 0), (Int.ofNat 0), 0)), (267, ((Int.ofNat 0), (Int.ofNat 0), 0)), (268, ((Int.ofNat 0), (Int.ofNat 0), 0)), (568, ((Int.ofNat 0), (Int.ofNat 0), 0)), (5392, ((Int.ofNat 0), (Int.ofNat 0), 0)), (10216, ((Int.ofNat 0), (Int.ofNat 0), 0))])
/-- RoadHouseModel$StreetCellsModel.kept -/
def sp334 : Nat × Nat × Sg := (1, 40864, [(24, ((Int.ofNat 0), (Int.ofNat 0), 0)), (48, ((Int.ofNat 0), (Int.ofNat 0), 0)), (72, ((Int.ofNat 0), (Int.ofNat 0), 0)), (168, ((Int.ofNat 0), (Int.ofNat 0), 0)), (264, ((Int.ofNat 0), (Int.ofNat 0), 0)), (265, ((Int.ofNat 0), (Int.ofNat 0), 0)), (266, ((Int.ofNat 0), (Int.ofNat 0), 0)), (267, ((Int.ofNat 0), (Int.ofNat 0), 0)), (268, ((Int.ofNat 0), (Int.ofNat 0), 0)), (568, ((Int.ofNat 0), (Int.ofNat 0), 0)), (5392, ((Int.ofNat 0), (Int.ofNat 0), 0)), (10216, ((Int.ofNat 0), (Int.ofNat 0), 0)), (10240, ((Int.ofNat 0), (Int.ofNat 0), 0)), (10264, ((Int.ofNat 0), (Int.ofNat 0), 0)), (10288, ((Int.ofNat 0), (Int.ofNat 0), 0)), (10384, ((Int.ofNat 0), (Int.ofNat 0), 0)), (10480, ((Int.ofNat 0), (Int.ofNat 0), 0)), (10481, ((Int.ofNat 0), (Int.ofNat 0), 0)), (10482, ((Int.ofNat 0), (Int.ofNat 0), 0)), (10483, ((Int.ofNat 0), (Int.ofNat 0), 0)), (10484, ((Int.ofNat 0), (Int.ofNat 0), 0)), (10784, ((Int.ofNat 0), (Int.ofNat 0), 0)), (15608, ((Int.ofNat 0), (Int.ofNat 0), 0)), (20432, ((Int.ofNat 0), (Int.ofNat 0), 0)), (20456, ((Int.ofNat 0), (Int.ofNat 0), 0)), (20480, ((Int.ofNat 0), (Int.ofNat 0), 0)), (20504, ((Int.ofNat 0), (Int.ofNat 0), 0)), (20600, ((Int.ofNat 0), (Int.ofNat 0), 0)), (20696, ((Int.ofNat 0), (Int.ofNat 0), 0)), (20697, ((Int.ofNat 0), (Int.ofNat 0), 0)), (20698, ((Int.ofNat 0), (Int.ofNat 0), 0)), (20699, ((Int.ofNat 0), (Int.ofNat 0), 0)), (20700, ((Int.ofNat 0), (Int.ofNat 0), 0)), (21000, ((Int.ofNat 0), (Int.ofNat 0), 0)), (25824, ((Int.ofNat 0), (Int.ofNat 0), 0)), (30648, ((Int.ofNat 0), (Int.ofNat 0), 0)), (30672, ((Int.ofNat 0), (Int.ofNat 0), 0)), (30696, ((Int.ofNat 0), (Int.ofNat 0), 0)), (30720, ((Int.ofNat 0), (Int.ofNat 0), 0)), (30816, ((Int.ofNat 0), (Int.ofNat 0), 0)), (30912, ((Int.ofNat 0), (Int.ofNat 0), 0)), (30913, ((Int.ofNat 0), (Int.ofNat 0), 0)), (30914, ((Int.ofNat 0), (Int.ofNat 0), 0)), (30915, ((Int.ofNat 0), (Int.ofNat 0), 0)), (30916, ((Int.ofNat 0), (Int.ofNat 0), 0)), (31216, ((Int.ofNat 0), (Int.ofNat 0), 0)), (36040, ((Int.ofNat 0), (Int.ofNat 0), 0)), (40864, ((Int.ofNat 0), (Int.ofNat 0), 0))])
/-- RoadHouseModel$StreetCellsModel.cap -/
def sp335 : Nat × Nat × Sg := (0, 24, [(24, ((Int.ofNat 0), (Int.ofNat 0), 0))])
/-- RoadHouseModel$StreetCellsModel.can -/
def sp336 : Nat × Nat × Sg := (0, 24, [(24, ((Int.ofNat 0), (Int.ofNat 0), 0))])
/-- RoadHouseModel$StreetCellsModel.sends -/
def sp337 : Nat × Nat × Sg := (0, 24, [(24, ((Int.ofNat 0), (Int.ofNat 0), 0))])
/-- RoadHouseModel$StreetCellsModel.takes -/
def sp338 : Nat × Nat × Sg := (0, 24, [(24, ((Int.ofNat 0), (Int.ofNat 0), 0))])
/-- RoadHouseModel$StreetCellsModel.held -/
def sp339 : Nat × Nat × Sg := (2, 24, [(24, ((Int.ofNat 0), (Int.ofNat 0), 0))])
/-- RoadHouseModel$StreetCellsModel.gains -/
def sp340 : Nat × Nat × Sg := (0, 24, [(24, ((Int.ofNat 0), (Int.ofNat 0), 0))])
/-- RoadHouseModel.contract -/
def sp341 : Nat × Nat × Sg := (31, 0, [(1, ((Int.ofNat 0), (Int.ofNat 0), 0)), (2, ((Int.ofNat 0), (Int.ofNat 0), 0)), (3, ((Int.ofNat 2596), (Int.ofNat 2596), 342)), (4, ((Int.ofNat 2597), (Int.ofNat 2597), 343)), (5, ((Int.ofNat 0), (Int.ofNat 0), 0)), (6, ((Int.ofNat 2598), (Int.ofNat 2598), 344)), (7, ((Int.ofNat 2599), (Int.ofNat 2599), 345)), (8, ((Int.ofNat 0), (Int.ofNat 0), 0)), (9, ((Int.ofNat 2600), (Int.ofNat 2600), 346)), (10, ((Int.ofNat 2601), (Int.ofNat 2601), 347)), (11, ((Int.ofNat 2602), (Int.ofNat 2602), 348)), (12, ((Int.ofNat 2603), (Int.ofNat 2603), 349)), (13, ((Int.ofNat 0), (Int.ofNat 0), 0)), (14, ((Int.ofNat 0), (Int.ofNat 0), 0)), (15, ((Int.ofNat 2604), (Int.ofNat 2604), 350)), (16, ((Int.ofNat 2605), (Int.ofNat 2605), 351)), (17, ((Int.ofNat 0), (Int.ofNat 0), 0)), (18, ((Int.ofNat 2606), (Int.ofNat 2606), 352)), (19, ((Int.ofNat 0), (Int.ofNat 0), 0)), (20, ((Int.ofNat 2607), (Int.ofNat 2607), 353)), (21, ((Int.ofNat 2608), (Int.ofNat 2608), 354)), (22, ((Int.ofNat 2609), (Int.ofNat 2609), 355)), (23, ((Int.ofNat 0), (Int.ofNat 0), 0)), (24, ((Int.ofNat 2610), (Int.ofNat 2610), 356)), (25, ((Int.ofNat 0), (Int.ofNat 0), 0)), (26, ((Int.ofNat 2611), (Int.ofNat 2611), 357)), (27, ((Int.ofNat 0), (Int.ofNat 0), 0)), (28, ((Int.ofNat 2612), (Int.ofNat 2612), 358)), (29, ((Int.ofNat 2613), (Int.ofNat 2613), 359)), (30, ((Int.ofNat 2614), (Int.ofNat 2614), 360)), (31, ((Int.ofNat 2615), (Int.ofNat 2615), 361)), (32, ((Int.ofNat 0), (Int.ofNat 0), 0)), (33, ((Int.ofNat 1), (Int.ofNat 1), 0)), (34, ((Int.negSucc 0), (Int.negSucc 0), 0)), (35, ((Int.ofNat 2616), (Int.ofNat 2616), 362)), (36, ((Int.ofNat 2617), (Int.ofNat 2617), 363)), (37, ((Int.ofNat 0), (Int.ofNat 0), 0)), (38, ((Int.ofNat 0), (Int.ofNat 0), 0)), (39, ((Int.ofNat 2618), (Int.ofNat 2618), 364)), (40, ((Int.ofNat 0), (Int.ofNat 0), 0))])
/-- RoadHouseModel$RateQuantitiesModel.text -/
def sp342 : Nat × Nat × Sg := (0, 200, [(200, ((Int.ofNat 0), (Int.ofNat 0), 0))])
/-- RoadHouseModel$RateQuantitiesModel.kept -/
def sp343 : Nat × Nat × Sg := (0, 200, [(200, ((Int.ofNat 0), (Int.ofNat 0), 0))])
/-- RoadHouseModel$RateQuantitiesModel.begins -/
def sp344 : Nat × Nat × Sg := (0, 201, [(201, ((Int.ofNat 0), (Int.ofNat 0), 0))])
/-- RoadHouseModel$RateQuantitiesModel.ends -/
def sp345 : Nat × Nat × Sg := (0, 201, [(201, ((Int.ofNat 0), (Int.ofNat 0), 0))])
/-- RoadHouseModel$RateQuantitiesModel.names -/
def sp346 : Nat × Nat × Sg := (0, 8, [(1, ((Int.ofNat 0), (Int.ofNat 0), 0)), (2, ((Int.ofNat 0), (Int.ofNat 0), 0)), (3, ((Int.ofNat 0), (Int.ofNat 0), 0)), (4, ((Int.ofNat 0), (Int.ofNat 0), 0)), (5, ((Int.ofNat 0), (Int.ofNat 0), 0)), (6, ((Int.ofNat 0), (Int.ofNat 0), 0)), (7, ((Int.ofNat 0), (Int.ofNat 0), 0)), (8, ((Int.ofNat 0), (Int.ofNat 0), 0))])
/-- RoadHouseModel$RateQuantitiesModel.froms -/
def sp347 : Nat × Nat × Sg := (0, 8, [(1, ((Int.ofNat 0), (Int.ofNat 0), 0)), (2, ((Int.ofNat 0), (Int.ofNat 0), 0)), (3, ((Int.ofNat 0), (Int.ofNat 0), 0)), (4, ((Int.ofNat 0), (Int.ofNat 0), 0)), (5, ((Int.ofNat 0), (Int.ofNat 0), 0)), (6, ((Int.ofNat 0), (Int.ofNat 0), 0)), (7, ((Int.ofNat 0), (Int.ofNat 0), 0)), (8, ((Int.ofNat 0), (Int.ofNat 0), 0))])
/-- RoadHouseModel$RateQuantitiesModel.tos -/
def sp348 : Nat × Nat × Sg := (0, 8, [(1, ((Int.ofNat 0), (Int.ofNat 0), 0)), (2, ((Int.ofNat 0), (Int.ofNat 0), 0)), (3, ((Int.ofNat 0), (Int.ofNat 0), 0)), (4, ((Int.ofNat 0), (Int.ofNat 0), 0)), (5, ((Int.ofNat 0), (Int.ofNat 0), 0)), (6, ((Int.ofNat 0), (Int.ofNat 0), 0)), (7, ((Int.ofNat 0), (Int.ofNat 0), 0)), (8, ((Int.ofNat 0), (Int.ofNat 0), 0))])
/-- RoadHouseModel$RateQuantitiesModel.steps -/
def sp349 : Nat × Nat × Sg := (0, 8, [(1, ((Int.ofNat 0), (Int.ofNat 0), 0)), (2, ((Int.ofNat 0), (Int.ofNat 0), 0)), (3, ((Int.ofNat 0), (Int.ofNat 0), 0)), (4, ((Int.ofNat 0), (Int.ofNat 0), 0)), (5, ((Int.ofNat 0), (Int.ofNat 0), 0)), (6, ((Int.ofNat 0), (Int.ofNat 0), 0)), (7, ((Int.ofNat 0), (Int.ofNat 0), 0)), (8, ((Int.ofNat 0), (Int.ofNat 0), 0))])
/-- RoadHouseModel$RateQuantitiesModel.rates -/
def sp350 : Nat × Nat × Sg := (1, 8, [(1, ((Int.ofNat 0), (Int.ofNat 0), 0)), (2, ((Int.ofNat 0), (Int.ofNat 0), 0)), (3, ((Int.ofNat 0), (Int.ofNat 0), 0)), (4, ((Int.ofNat 0), (Int.ofNat 0), 0)), (5, ((Int.ofNat 0), (Int.ofNat 0), 0)), (6, ((Int.ofNat 0), (Int.ofNat 0), 0)), (7, ((Int.ofNat 0), (Int.ofNat 0), 0)), (8, ((Int.ofNat 0), (Int.ofNat 0), 0))])
/-- RoadHouseModel$RateQuantitiesModel.counts -/
def sp351 : Nat × Nat × Sg := (0, 8, [(1, ((Int.ofNat 0), (Int.ofNat 0), 0)), (2, ((Int.ofNat 0), (Int.ofNat 0), 0)), (3, ((Int.ofNat 0), (Int.ofNat 0), 0)), (4, ((Int.ofNat 0), (Int.ofNat 0), 0)), (5, ((Int.ofNat 0), (Int.ofNat 0), 0)), (6, ((Int.ofNat 0), (Int.ofNat 0), 0)), (7, ((Int.ofNat 0), (Int.ofNat 0), 0)), (8, ((Int.ofNat 0), (Int.ofNat 0), 0))])
/-- RoadHouseModel$RateQuantitiesModel.numbers -/
def sp352 : Nat × Nat × Sg := (0, 160, [(160, ((Int.ofNat 0), (Int.ofNat 0), 0))])
/-- RoadHouseModel$RateQuantitiesModel.entry -/
def sp353 : Nat × Nat × Sg := (0, 240, [(240, ((Int.ofNat 0), (Int.ofNat 0), 0))])
/-- RoadHouseModel$RateQuantitiesModel.now -/
def sp354 : Nat × Nat × Sg := (0, 240, [(240, ((Int.ofNat 0), (Int.ofNat 0), 0))])
/-- RoadHouseModel$RateQuantitiesModel.before -/
def sp355 : Nat × Nat × Sg := (0, 240, [(240, ((Int.ofNat 0), (Int.ofNat 0), 0))])
/-- RoadHouseModel$RateQuantitiesModel.change -/
def sp356 : Nat × Nat × Sg := (0, 80, [(80, ((Int.ofNat 0), (Int.ofNat 0), 0))])
/-- RoadHouseModel$RateQuantitiesModel.penalty -/
def sp357 : Nat × Nat × Sg := (0, 30, [(30, ((Int.ofNat 0), (Int.ofNat 0), 0))])
/-- RoadHouseModel$RateQuantitiesModel.trouble -/
def sp358 : Nat × Nat × Sg := (0, 300, [(300, ((Int.ofNat 0), (Int.ofNat 0), 0))])
/-- RoadHouseModel$RateQuantitiesModel.above -/
def sp359 : Nat × Nat × Sg := (1, 12, [(1, ((Int.ofNat 1), (Int.ofNat 1), 0)), (2, ((Int.ofNat 1), (Int.ofNat 1), 0)), (3, ((Int.ofNat 1), (Int.ofNat 1), 0)), (4, ((Int.ofNat 1), (Int.ofNat 1), 0)), (5, ((Int.ofNat 1), (Int.ofNat 1), 0)), (6, ((Int.ofNat 1), (Int.ofNat 1), 0)), (7, ((Int.ofNat 1), (Int.ofNat 1), 0)), (8, ((Int.ofNat 1), (Int.ofNat 1), 0)), (9, ((Int.ofNat 1), (Int.ofNat 1), 0)), (10, ((Int.ofNat 1), (Int.ofNat 1), 0)), (11, ((Int.ofNat 1), (Int.ofNat 1), 0)), (12, ((Int.ofNat 1), (Int.ofNat 1), 0))])
/-- RoadHouseModel$RateQuantitiesModel.below -/
def sp360 : Nat × Nat × Sg := (1, 12, [(1, ((Int.ofNat 1), (Int.ofNat 1), 0)), (2, ((Int.ofNat 1), (Int.ofNat 1), 0)), (3, ((Int.ofNat 1), (Int.ofNat 1), 0)), (4, ((Int.ofNat 1), (Int.ofNat 1), 0)), (5, ((Int.ofNat 1), (Int.ofNat 1), 0)), (6, ((Int.ofNat 1), (Int.ofNat 1), 0)), (7, ((Int.ofNat 1), (Int.ofNat 1), 0)), (8, ((Int.ofNat 1), (Int.ofNat 1), 0)), (9, ((Int.ofNat 1), (Int.ofNat 1), 0)), (10, ((Int.ofNat 1), (Int.ofNat 1), 0)), (11, ((Int.ofNat 1), (Int.ofNat 1), 0)), (12, ((Int.ofNat 1), (Int.ofNat 1), 0))])
/-- RoadHouseModel$RateQuantitiesModel.weights -/
def sp361 : Nat × Nat × Sg := (1, 4, [(1, ((Int.ofNat 0), (Int.ofNat 0), 0)), (2, ((Int.ofNat 0), (Int.ofNat 0), 0)), (3, ((Int.ofNat 0), (Int.ofNat 0), 0)), (4, ((Int.ofNat 0), (Int.ofNat 0), 0))])
/-- RoadHouseModel$RateQuantitiesModel.values -/
def sp362 : Nat × Nat × Sg := (1, 64, [(64, ((Int.ofNat 0), (Int.ofNat 0), 0))])
/-- RoadHouseModel$RateQuantitiesModel.signs -/
def sp363 : Nat × Nat × Sg := (0, 64, [(64, ((Int.ofNat 0), (Int.ofNat 0), 0))])
/-- RoadHouseModel$RateQuantitiesModel.out -/
def sp364 : Nat × Nat × Sg := (0, 600, [(600, ((Int.ofNat 0), (Int.ofNat 0), 0))])
/-- RoadHouseModel.levels -/
def sp365 : Nat × Nat × Sg := (0, 144, [(144, ((Int.ofNat 0), (Int.ofNat 0), 0))])
/-- RoadHouseModel.kinds -/
def sp366 : Nat × Nat × Sg := (0, 144, [(144, ((Int.ofNat 0), (Int.ofNat 0), 0))])
/-- RoadHouseModel.weeks -/
def sp367 : Nat × Nat × Sg := (0, 8, [(1, ((Int.ofNat 0), (Int.ofNat 0), 0)), (2, ((Int.ofNat 0), (Int.ofNat 0), 0)), (3, ((Int.ofNat 0), (Int.ofNat 0), 0)), (4, ((Int.ofNat 0), (Int.ofNat 0), 0)), (5, ((Int.ofNat 0), (Int.ofNat 0), 0)), (6, ((Int.ofNat 0), (Int.ofNat 0), 0)), (7, ((Int.ofNat 0), (Int.ofNat 0), 0)), (8, ((Int.ofNat 0), (Int.ofNat 0), 0))])
/-- RoadHouseModel.dark -/
def sp368 : Nat × Nat × Sg := (2, 6, [(6, ((Int.ofNat 0), (Int.ofNat 0), 0))])
/-- RoadHouseModel.cells -/
def sp369 : Nat × Nat × Sg := (0, 5001, [(5001, ((Int.ofNat 0), (Int.ofNat 0), 0))])
/-- RoadHouseModel.metres -/
def sp370 : Nat × Nat × Sg := (0, 5001, [(5001, ((Int.ofNat 0), (Int.ofNat 0), 0))])
/-- RoadHouseModel.lengths -/
def sp371 : Nat × Nat × Sg := (0, 5001, [(5001, ((Int.ofNat 0), (Int.ofNat 0), 0))])
/-- RoadHouseModel.corners -/
def sp372 : Nat × Nat × Sg := (1, 14, [(1, ((Int.ofNat 0), (Int.ofNat 0), 0)), (2, ((Int.ofNat 0), (Int.ofNat 0), 0)), (3, ((Int.ofNat 0), (Int.ofNat 0), 0)), (4, ((Int.ofNat 0), (Int.ofNat 0), 0)), (5, ((Int.ofNat 0), (Int.ofNat 0), 0)), (6, ((Int.ofNat 0), (Int.ofNat 0), 0)), (7, ((Int.ofNat 0), (Int.ofNat 0), 0)), (8, ((Int.ofNat 0), (Int.ofNat 0), 0)), (9, ((Int.ofNat 0), (Int.ofNat 0), 0)), (10, ((Int.ofNat 0), (Int.ofNat 0), 0)), (11, ((Int.ofNat 0), (Int.ofNat 0), 0)), (12, ((Int.ofNat 0), (Int.ofNat 0), 0)), (13, ((Int.ofNat 0), (Int.ofNat 0), 0)), (14, ((Int.ofNat 0), (Int.ofNat 0), 0))])
/-- cell2627 -/
def sp373 : Nat × Nat × Sg := (1, 1, [(1, ((Int.ofNat 0), (Int.ofNat 0), 0))])
def sp0 : Nat × Nat × Sg := (99, 0, [])
set_option maxRecDepth 100000 in
def spT (n : Nat) : Nat × Nat × Sg := (bif Nat.blt n 187 then (bif Nat.blt n 93 then (bif Nat.blt n 46 then (bif Nat.blt n 23 then (bif Nat.blt n 11 then (bif Nat.blt n 5 then (bif Nat.blt n 2 then (bif Nat.blt n 1 then sp0 else sp1) else (bif Nat.blt n 3 then sp2 else (bif Nat.blt n 4 then sp3 else sp4))) else (bif Nat.blt n 8 then (bif Nat.blt n 6 then sp5 else (bif Nat.blt n 7 then sp6 else sp7)) else (bif Nat.blt n 9 then sp8 else (bif Nat.blt n 10 then sp9 else sp10)))) else (bif Nat.blt n 17 then (bif Nat.blt n 14 then (bif Nat.blt n 12 then sp11 else (bif Nat.blt n 13 then sp12 else sp13)) else (bif Nat.blt n 15 then sp14 else (bif Nat.blt n 16 then sp15 else sp16))) else (bif Nat.blt n 20 then (bif Nat.blt n 18 then sp17 else (bif Nat.blt n 19 then sp18 else sp19)) else (bif Nat.blt n 21 then sp20 else (bif Nat.blt n 22 then sp21 else sp22))))) else (bif Nat.blt n 34 then (bif Nat.blt n 28 then (bif Nat.blt n 25 then (bif Nat.blt n 24 then sp23 else sp24) else (bif Nat.blt n 26 then sp25 else (bif Nat.blt n 27 then sp26 else sp27))) else (bif Nat.blt n 31 then (bif Nat.blt n 29 then sp28 else (bif Nat.blt n 30 then sp29 else sp30)) else (bif Nat.blt n 32 then sp31 else (bif Nat.blt n 33 then sp32 else sp33)))) else (bif Nat.blt n 40 then (bif Nat.blt n 37 then (bif Nat.blt n 35 then sp34 else (bif Nat.blt n 36 then sp35 else sp36)) else (bif Nat.blt n 38 then sp37 else (bif Nat.blt n 39 then sp38 else sp39))) else (bif Nat.blt n 43 then (bif Nat.blt n 41 then sp40 else (bif Nat.blt n 42 then sp41 else sp42)) else (bif Nat.blt n 44 then sp43 else (bif Nat.blt n 45 then sp44 else sp45)))))) else (bif Nat.blt n 69 then (bif Nat.blt n 57 then (bif Nat.blt n 51 then (bif Nat.blt n 48 then (bif Nat.blt n 47 then sp46 else sp47) else (bif Nat.blt n 49 then sp48 else (bif Nat.blt n 50 then sp49 else sp50))) else (bif Nat.blt n 54 then (bif Nat.blt n 52 then sp51 else (bif Nat.blt n 53 then sp52 else sp53)) else (bif Nat.blt n 55 then sp54 else (bif Nat.blt n 56 then sp55 else sp56)))) else (bif Nat.blt n 63 then (bif Nat.blt n 60 then (bif Nat.blt n 58 then sp57 else (bif Nat.blt n 59 then sp58 else sp59)) else (bif Nat.blt n 61 then sp60 else (bif Nat.blt n 62 then sp61 else sp62))) else (bif Nat.blt n 66 then (bif Nat.blt n 64 then sp63 else (bif Nat.blt n 65 then sp64 else sp65)) else (bif Nat.blt n 67 then sp66 else (bif Nat.blt n 68 then sp67 else sp68))))) else (bif Nat.blt n 81 then (bif Nat.blt n 75 then (bif Nat.blt n 72 then (bif Nat.blt n 70 then sp69 else (bif Nat.blt n 71 then sp70 else sp71)) else (bif Nat.blt n 73 then sp72 else (bif Nat.blt n 74 then sp73 else sp74))) else (bif Nat.blt n 78 then (bif Nat.blt n 76 then sp75 else (bif Nat.blt n 77 then sp76 else sp77)) else (bif Nat.blt n 79 then sp78 else (bif Nat.blt n 80 then sp79 else sp80)))) else (bif Nat.blt n 87 then (bif Nat.blt n 84 then (bif Nat.blt n 82 then sp81 else (bif Nat.blt n 83 then sp82 else sp83)) else (bif Nat.blt n 85 then sp84 else (bif Nat.blt n 86 then sp85 else sp86))) else (bif Nat.blt n 90 then (bif Nat.blt n 88 then sp87 else (bif Nat.blt n 89 then sp88 else sp89)) else (bif Nat.blt n 91 then sp90 else (bif Nat.blt n 92 then sp91 else sp92))))))) else (bif Nat.blt n 140 then (bif Nat.blt n 116 then (bif Nat.blt n 104 then (bif Nat.blt n 98 then (bif Nat.blt n 95 then (bif Nat.blt n 94 then sp93 else sp94) else (bif Nat.blt n 96 then sp95 else (bif Nat.blt n 97 then sp96 else sp97))) else (bif Nat.blt n 101 then (bif Nat.blt n 99 then sp98 else (bif Nat.blt n 100 then sp99 else sp100)) else (bif Nat.blt n 102 then sp101 else (bif Nat.blt n 103 then sp102 else sp103)))) else (bif Nat.blt n 110 then (bif Nat.blt n 107 then (bif Nat.blt n 105 then sp104 else (bif Nat.blt n 106 then sp105 else sp106)) else (bif Nat.blt n 108 then sp107 else (bif Nat.blt n 109 then sp108 else sp109))) else (bif Nat.blt n 113 then (bif Nat.blt n 111 then sp110 else (bif Nat.blt n 112 then sp111 else sp112)) else (bif Nat.blt n 114 then sp113 else (bif Nat.blt n 115 then sp114 else sp115))))) else (bif Nat.blt n 128 then (bif Nat.blt n 122 then (bif Nat.blt n 119 then (bif Nat.blt n 117 then sp116 else (bif Nat.blt n 118 then sp117 else sp118)) else (bif Nat.blt n 120 then sp119 else (bif Nat.blt n 121 then sp120 else sp121))) else (bif Nat.blt n 125 then (bif Nat.blt n 123 then sp122 else (bif Nat.blt n 124 then sp123 else sp124)) else (bif Nat.blt n 126 then sp125 else (bif Nat.blt n 127 then sp126 else sp127)))) else (bif Nat.blt n 134 then (bif Nat.blt n 131 then (bif Nat.blt n 129 then sp128 else (bif Nat.blt n 130 then sp129 else sp130)) else (bif Nat.blt n 132 then sp131 else (bif Nat.blt n 133 then sp132 else sp133))) else (bif Nat.blt n 137 then (bif Nat.blt n 135 then sp134 else (bif Nat.blt n 136 then sp135 else sp136)) else (bif Nat.blt n 138 then sp137 else (bif Nat.blt n 139 then sp138 else sp139)))))) else (bif Nat.blt n 163 then (bif Nat.blt n 151 then (bif Nat.blt n 145 then (bif Nat.blt n 142 then (bif Nat.blt n 141 then sp140 else sp141) else (bif Nat.blt n 143 then sp142 else (bif Nat.blt n 144 then sp143 else sp144))) else (bif Nat.blt n 148 then (bif Nat.blt n 146 then sp145 else (bif Nat.blt n 147 then sp146 else sp147)) else (bif Nat.blt n 149 then sp148 else (bif Nat.blt n 150 then sp149 else sp150)))) else (bif Nat.blt n 157 then (bif Nat.blt n 154 then (bif Nat.blt n 152 then sp151 else (bif Nat.blt n 153 then sp152 else sp153)) else (bif Nat.blt n 155 then sp154 else (bif Nat.blt n 156 then sp155 else sp156))) else (bif Nat.blt n 160 then (bif Nat.blt n 158 then sp157 else (bif Nat.blt n 159 then sp158 else sp159)) else (bif Nat.blt n 161 then sp160 else (bif Nat.blt n 162 then sp161 else sp162))))) else (bif Nat.blt n 175 then (bif Nat.blt n 169 then (bif Nat.blt n 166 then (bif Nat.blt n 164 then sp163 else (bif Nat.blt n 165 then sp164 else sp165)) else (bif Nat.blt n 167 then sp166 else (bif Nat.blt n 168 then sp167 else sp168))) else (bif Nat.blt n 172 then (bif Nat.blt n 170 then sp169 else (bif Nat.blt n 171 then sp170 else sp171)) else (bif Nat.blt n 173 then sp172 else (bif Nat.blt n 174 then sp173 else sp174)))) else (bif Nat.blt n 181 then (bif Nat.blt n 178 then (bif Nat.blt n 176 then sp175 else (bif Nat.blt n 177 then sp176 else sp177)) else (bif Nat.blt n 179 then sp178 else (bif Nat.blt n 180 then sp179 else sp180))) else (bif Nat.blt n 184 then (bif Nat.blt n 182 then sp181 else (bif Nat.blt n 183 then sp182 else sp183)) else (bif Nat.blt n 185 then sp184 else (bif Nat.blt n 186 then sp185 else sp186)))))))) else (bif Nat.blt n 280 then (bif Nat.blt n 233 then (bif Nat.blt n 210 then (bif Nat.blt n 198 then (bif Nat.blt n 192 then (bif Nat.blt n 189 then (bif Nat.blt n 188 then sp187 else sp188) else (bif Nat.blt n 190 then sp189 else (bif Nat.blt n 191 then sp190 else sp191))) else (bif Nat.blt n 195 then (bif Nat.blt n 193 then sp192 else (bif Nat.blt n 194 then sp193 else sp194)) else (bif Nat.blt n 196 then sp195 else (bif Nat.blt n 197 then sp196 else sp197)))) else (bif Nat.blt n 204 then (bif Nat.blt n 201 then (bif Nat.blt n 199 then sp198 else (bif Nat.blt n 200 then sp199 else sp200)) else (bif Nat.blt n 202 then sp201 else (bif Nat.blt n 203 then sp202 else sp203))) else (bif Nat.blt n 207 then (bif Nat.blt n 205 then sp204 else (bif Nat.blt n 206 then sp205 else sp206)) else (bif Nat.blt n 208 then sp207 else (bif Nat.blt n 209 then sp208 else sp209))))) else (bif Nat.blt n 221 then (bif Nat.blt n 215 then (bif Nat.blt n 212 then (bif Nat.blt n 211 then sp210 else sp211) else (bif Nat.blt n 213 then sp212 else (bif Nat.blt n 214 then sp213 else sp214))) else (bif Nat.blt n 218 then (bif Nat.blt n 216 then sp215 else (bif Nat.blt n 217 then sp216 else sp217)) else (bif Nat.blt n 219 then sp218 else (bif Nat.blt n 220 then sp219 else sp220)))) else (bif Nat.blt n 227 then (bif Nat.blt n 224 then (bif Nat.blt n 222 then sp221 else (bif Nat.blt n 223 then sp222 else sp223)) else (bif Nat.blt n 225 then sp224 else (bif Nat.blt n 226 then sp225 else sp226))) else (bif Nat.blt n 230 then (bif Nat.blt n 228 then sp227 else (bif Nat.blt n 229 then sp228 else sp229)) else (bif Nat.blt n 231 then sp230 else (bif Nat.blt n 232 then sp231 else sp232)))))) else (bif Nat.blt n 256 then (bif Nat.blt n 244 then (bif Nat.blt n 238 then (bif Nat.blt n 235 then (bif Nat.blt n 234 then sp233 else sp234) else (bif Nat.blt n 236 then sp235 else (bif Nat.blt n 237 then sp236 else sp237))) else (bif Nat.blt n 241 then (bif Nat.blt n 239 then sp238 else (bif Nat.blt n 240 then sp239 else sp240)) else (bif Nat.blt n 242 then sp241 else (bif Nat.blt n 243 then sp242 else sp243)))) else (bif Nat.blt n 250 then (bif Nat.blt n 247 then (bif Nat.blt n 245 then sp244 else (bif Nat.blt n 246 then sp245 else sp246)) else (bif Nat.blt n 248 then sp247 else (bif Nat.blt n 249 then sp248 else sp249))) else (bif Nat.blt n 253 then (bif Nat.blt n 251 then sp250 else (bif Nat.blt n 252 then sp251 else sp252)) else (bif Nat.blt n 254 then sp253 else (bif Nat.blt n 255 then sp254 else sp255))))) else (bif Nat.blt n 268 then (bif Nat.blt n 262 then (bif Nat.blt n 259 then (bif Nat.blt n 257 then sp256 else (bif Nat.blt n 258 then sp257 else sp258)) else (bif Nat.blt n 260 then sp259 else (bif Nat.blt n 261 then sp260 else sp261))) else (bif Nat.blt n 265 then (bif Nat.blt n 263 then sp262 else (bif Nat.blt n 264 then sp263 else sp264)) else (bif Nat.blt n 266 then sp265 else (bif Nat.blt n 267 then sp266 else sp267)))) else (bif Nat.blt n 274 then (bif Nat.blt n 271 then (bif Nat.blt n 269 then sp268 else (bif Nat.blt n 270 then sp269 else sp270)) else (bif Nat.blt n 272 then sp271 else (bif Nat.blt n 273 then sp272 else sp273))) else (bif Nat.blt n 277 then (bif Nat.blt n 275 then sp274 else (bif Nat.blt n 276 then sp275 else sp276)) else (bif Nat.blt n 278 then sp277 else (bif Nat.blt n 279 then sp278 else sp279))))))) else (bif Nat.blt n 327 then (bif Nat.blt n 303 then (bif Nat.blt n 291 then (bif Nat.blt n 285 then (bif Nat.blt n 282 then (bif Nat.blt n 281 then sp280 else sp281) else (bif Nat.blt n 283 then sp282 else (bif Nat.blt n 284 then sp283 else sp284))) else (bif Nat.blt n 288 then (bif Nat.blt n 286 then sp285 else (bif Nat.blt n 287 then sp286 else sp287)) else (bif Nat.blt n 289 then sp288 else (bif Nat.blt n 290 then sp289 else sp290)))) else (bif Nat.blt n 297 then (bif Nat.blt n 294 then (bif Nat.blt n 292 then sp291 else (bif Nat.blt n 293 then sp292 else sp293)) else (bif Nat.blt n 295 then sp294 else (bif Nat.blt n 296 then sp295 else sp296))) else (bif Nat.blt n 300 then (bif Nat.blt n 298 then sp297 else (bif Nat.blt n 299 then sp298 else sp299)) else (bif Nat.blt n 301 then sp300 else (bif Nat.blt n 302 then sp301 else sp302))))) else (bif Nat.blt n 315 then (bif Nat.blt n 309 then (bif Nat.blt n 306 then (bif Nat.blt n 304 then sp303 else (bif Nat.blt n 305 then sp304 else sp305)) else (bif Nat.blt n 307 then sp306 else (bif Nat.blt n 308 then sp307 else sp308))) else (bif Nat.blt n 312 then (bif Nat.blt n 310 then sp309 else (bif Nat.blt n 311 then sp310 else sp311)) else (bif Nat.blt n 313 then sp312 else (bif Nat.blt n 314 then sp313 else sp314)))) else (bif Nat.blt n 321 then (bif Nat.blt n 318 then (bif Nat.blt n 316 then sp315 else (bif Nat.blt n 317 then sp316 else sp317)) else (bif Nat.blt n 319 then sp318 else (bif Nat.blt n 320 then sp319 else sp320))) else (bif Nat.blt n 324 then (bif Nat.blt n 322 then sp321 else (bif Nat.blt n 323 then sp322 else sp323)) else (bif Nat.blt n 325 then sp324 else (bif Nat.blt n 326 then sp325 else sp326)))))) else (bif Nat.blt n 350 then (bif Nat.blt n 338 then (bif Nat.blt n 332 then (bif Nat.blt n 329 then (bif Nat.blt n 328 then sp327 else sp328) else (bif Nat.blt n 330 then sp329 else (bif Nat.blt n 331 then sp330 else sp331))) else (bif Nat.blt n 335 then (bif Nat.blt n 333 then sp332 else (bif Nat.blt n 334 then sp333 else sp334)) else (bif Nat.blt n 336 then sp335 else (bif Nat.blt n 337 then sp336 else sp337)))) else (bif Nat.blt n 344 then (bif Nat.blt n 341 then (bif Nat.blt n 339 then sp338 else (bif Nat.blt n 340 then sp339 else sp340)) else (bif Nat.blt n 342 then sp341 else (bif Nat.blt n 343 then sp342 else sp343))) else (bif Nat.blt n 347 then (bif Nat.blt n 345 then sp344 else (bif Nat.blt n 346 then sp345 else sp346)) else (bif Nat.blt n 348 then sp347 else (bif Nat.blt n 349 then sp348 else sp349))))) else (bif Nat.blt n 362 then (bif Nat.blt n 356 then (bif Nat.blt n 353 then (bif Nat.blt n 351 then sp350 else (bif Nat.blt n 352 then sp351 else sp352)) else (bif Nat.blt n 354 then sp353 else (bif Nat.blt n 355 then sp354 else sp355))) else (bif Nat.blt n 359 then (bif Nat.blt n 357 then sp356 else (bif Nat.blt n 358 then sp357 else sp358)) else (bif Nat.blt n 360 then sp359 else (bif Nat.blt n 361 then sp360 else sp361)))) else (bif Nat.blt n 368 then (bif Nat.blt n 365 then (bif Nat.blt n 363 then sp362 else (bif Nat.blt n 364 then sp363 else sp364)) else (bif Nat.blt n 366 then sp365 else (bif Nat.blt n 367 then sp366 else sp367))) else (bif Nat.blt n 371 then (bif Nat.blt n 369 then sp368 else (bif Nat.blt n 370 then sp369 else sp370)) else (bif Nat.blt n 372 then sp371 else (bif Nat.blt n 373 then sp372 else sp373)))))))))
def tcT : Tc := (rcT, spT, 2628)
