/-! the cells in classes, and what they hold -/
set_option maxRecDepth 100000 in
def rcT (n : Nat) : Nat := (bif Nat.blt n 492 then (bif Nat.blt n 308 then (bif Nat.blt n 216 then (bif Nat.blt n 112 then (bif Nat.blt n 31 then (bif Nat.blt n 11 then (bif Nat.blt n 5 then (bif Nat.blt n 2 then (bif Nat.blt n 1 then 1 else 2) else (bif Nat.blt n 3 then 3 else (bif Nat.blt n 4 then 4 else 5))) else (bif Nat.blt n 8 then (bif Nat.blt n 6 then 6 else (bif Nat.blt n 7 then 7 else 8)) else (bif Nat.blt n 9 then 9 else (bif Nat.blt n 10 then 10 else 11)))) else (bif Nat.blt n 20 then (bif Nat.blt n 14 then (bif Nat.blt n 12 then 12 else (bif Nat.blt n 13 then 13 else 14)) else (bif Nat.blt n 18 then 15 else (bif Nat.blt n 19 then 16 else 17))) else (bif Nat.blt n 28 then (bif Nat.blt n 21 then 18 else (bif Nat.blt n 27 then 19 else 20)) else (bif Nat.blt n 29 then 21 else (bif Nat.blt n 30 then 22 else 23))))) else (bif Nat.blt n 59 then (bif Nat.blt n 36 then (bif Nat.blt n 33 then (bif Nat.blt n 32 then 24 else 25) else (bif Nat.blt n 34 then 26 else (bif Nat.blt n 35 then 27 else 28))) else (bif Nat.blt n 46 then (bif Nat.blt n 37 then 29 else (bif Nat.blt n 45 then 30 else 31)) else (bif Nat.blt n 50 then 32 else (bif Nat.blt n 51 then 33 else 34)))) else (bif Nat.blt n 73 then (bif Nat.blt n 67 then (bif Nat.blt n 60 then 35 else (bif Nat.blt n 66 then 36 else 37)) else (bif Nat.blt n 71 then 38 else (bif Nat.blt n 72 then 39 else 40))) else (bif Nat.blt n 87 then (bif Nat.blt n 74 then 41 else (bif Nat.blt n 86 then 42 else 43)) else (bif Nat.blt n 99 then 44 else (bif Nat.blt n 100 then 45 else 46)))))) else (bif Nat.blt n 193 then (bif Nat.blt n 166 then (bif Nat.blt n 117 then (bif Nat.blt n 114 then (bif Nat.blt n 113 then 47 else 48) else (bif Nat.blt n 115 then 49 else (bif Nat.blt n 116 then 50 else 51))) else (bif Nat.blt n 161 then (bif Nat.blt n 159 then 52 else (bif Nat.blt n 160 then 53 else 54)) else (bif Nat.blt n 162 then 55 else (bif Nat.blt n 163 then 56 else 57)))) else (bif Nat.blt n 180 then (bif Nat.blt n 169 then (bif Nat.blt n 167 then 58 else (bif Nat.blt n 168 then 59 else 60)) else (bif Nat.blt n 170 then 61 else (bif Nat.blt n 179 then 62 else 63))) else (bif Nat.blt n 183 then (bif Nat.blt n 181 then 64 else (bif Nat.blt n 182 then 65 else 66)) else (bif Nat.blt n 191 then 67 else (bif Nat.blt n 192 then 68 else 69))))) else (bif Nat.blt n 204 then (bif Nat.blt n 198 then (bif Nat.blt n 195 then (bif Nat.blt n 194 then 70 else 71) else (bif Nat.blt n 196 then 72 else (bif Nat.blt n 197 then 73 else 74))) else (bif Nat.blt n 201 then (bif Nat.blt n 199 then 75 else (bif Nat.blt n 200 then 76 else 77)) else (bif Nat.blt n 202 then 78 else (bif Nat.blt n 203 then 79 else 80)))) else (bif Nat.blt n 210 then (bif Nat.blt n 207 then (bif Nat.blt n 205 then 81 else (bif Nat.blt n 206 then 82 else 83)) else (bif Nat.blt n 208 then 84 else (bif Nat.blt n 209 then 85 else 86))) else (bif Nat.blt n 213 then (bif Nat.blt n 211 then 87 else (bif Nat.blt n 212 then 86 else 87)) else (bif Nat.blt n 214 then 86 else (bif Nat.blt n 215 then 87 else 86))))))) else (bif Nat.blt n 262 then (bif Nat.blt n 239 then (bif Nat.blt n 227 then (bif Nat.blt n 221 then (bif Nat.blt n 218 then (bif Nat.blt n 217 then 87 else 86) else (bif Nat.blt n 219 then 87 else (bif Nat.blt n 220 then 86 else 87))) else (bif Nat.blt n 224 then (bif Nat.blt n 222 then 86 else (bif Nat.blt n 223 then 87 else 86)) else (bif Nat.blt n 225 then 87 else (bif Nat.blt n 226 then 86 else 87)))) else (bif Nat.blt n 233 then (bif Nat.blt n 230 then (bif Nat.blt n 228 then 86 else (bif Nat.blt n 229 then 87 else 86)) else (bif Nat.blt n 231 then 87 else (bif Nat.blt n 232 then 86 else 87))) else (bif Nat.blt n 236 then (bif Nat.blt n 234 then 86 else (bif Nat.blt n 235 then 87 else 86)) else (bif Nat.blt n 237 then 87 else (bif Nat.blt n 238 then 86 else 87))))) else (bif Nat.blt n 250 then (bif Nat.blt n 244 then (bif Nat.blt n 241 then (bif Nat.blt n 240 then 86 else 87) else (bif Nat.blt n 242 then 86 else (bif Nat.blt n 243 then 87 else 86))) else (bif Nat.blt n 247 then (bif Nat.blt n 245 then 87 else (bif Nat.blt n 246 then 86 else 87)) else (bif Nat.blt n 248 then 86 else (bif Nat.blt n 249 then 87 else 86)))) else (bif Nat.blt n 256 then (bif Nat.blt n 253 then (bif Nat.blt n 251 then 87 else (bif Nat.blt n 252 then 86 else 87)) else (bif Nat.blt n 254 then 86 else (bif Nat.blt n 255 then 87 else 86))) else (bif Nat.blt n 259 then (bif Nat.blt n 257 then 87 else (bif Nat.blt n 258 then 86 else 87)) else (bif Nat.blt n 260 then 86 else (bif Nat.blt n 261 then 87 else 86)))))) else (bif Nat.blt n 285 then (bif Nat.blt n 273 then (bif Nat.blt n 267 then (bif Nat.blt n 264 then (bif Nat.blt n 263 then 87 else 86) else (bif Nat.blt n 265 then 87 else (bif Nat.blt n 266 then 86 else 87))) else (bif Nat.blt n 270 then (bif Nat.blt n 268 then 86 else (bif Nat.blt n 269 then 87 else 86)) else (bif Nat.blt n 271 then 87 else (bif Nat.blt n 272 then 86 else 87)))) else (bif Nat.blt n 279 then (bif Nat.blt n 276 then (bif Nat.blt n 274 then 86 else (bif Nat.blt n 275 then 87 else 86)) else (bif Nat.blt n 277 then 87 else (bif Nat.blt n 278 then 86 else 87))) else (bif Nat.blt n 282 then (bif Nat.blt n 280 then 86 else (bif Nat.blt n 281 then 87 else 86)) else (bif Nat.blt n 283 then 87 else (bif Nat.blt n 284 then 86 else 87))))) else (bif Nat.blt n 296 then (bif Nat.blt n 290 then (bif Nat.blt n 287 then (bif Nat.blt n 286 then 86 else 87) else (bif Nat.blt n 288 then 86 else (bif Nat.blt n 289 then 87 else 86))) else (bif Nat.blt n 293 then (bif Nat.blt n 291 then 87 else (bif Nat.blt n 292 then 86 else 87)) else (bif Nat.blt n 294 then 86 else (bif Nat.blt n 295 then 87 else 86)))) else (bif Nat.blt n 302 then (bif Nat.blt n 299 then (bif Nat.blt n 297 then 87 else (bif Nat.blt n 298 then 86 else 87)) else (bif Nat.blt n 300 then 86 else (bif Nat.blt n 301 then 87 else 86))) else (bif Nat.blt n 305 then (bif Nat.blt n 303 then 87 else (bif Nat.blt n 304 then 86 else 87)) else (bif Nat.blt n 306 then 86 else (bif Nat.blt n 307 then 87 else 86)))))))) else (bif Nat.blt n 400 then (bif Nat.blt n 354 then (bif Nat.blt n 331 then (bif Nat.blt n 319 then (bif Nat.blt n 313 then (bif Nat.blt n 310 then (bif Nat.blt n 309 then 87 else 86) else (bif Nat.blt n 311 then 87 else (bif Nat.blt n 312 then 86 else 87))) else (bif Nat.blt n 316 then (bif Nat.blt n 314 then 86 else (bif Nat.blt n 315 then 87 else 86)) else (bif Nat.blt n 317 then 87 else (bif Nat.blt n 318 then 86 else 87)))) else (bif Nat.blt n 325 then (bif Nat.blt n 322 then (bif Nat.blt n 320 then 86 else (bif Nat.blt n 321 then 87 else 86)) else (bif Nat.blt n 323 then 87 else (bif Nat.blt n 324 then 86 else 87))) else (bif Nat.blt n 328 then (bif Nat.blt n 326 then 86 else (bif Nat.blt n 327 then 87 else 86)) else (bif Nat.blt n 329 then 87 else (bif Nat.blt n 330 then 86 else 87))))) else (bif Nat.blt n 342 then (bif Nat.blt n 336 then (bif Nat.blt n 333 then (bif Nat.blt n 332 then 86 else 87) else (bif Nat.blt n 334 then 86 else (bif Nat.blt n 335 then 87 else 86))) else (bif Nat.blt n 339 then (bif Nat.blt n 337 then 87 else (bif Nat.blt n 338 then 86 else 87)) else (bif Nat.blt n 340 then 86 else (bif Nat.blt n 341 then 87 else 86)))) else (bif Nat.blt n 348 then (bif Nat.blt n 345 then (bif Nat.blt n 343 then 87 else (bif Nat.blt n 344 then 86 else 87)) else (bif Nat.blt n 346 then 86 else (bif Nat.blt n 347 then 87 else 86))) else (bif Nat.blt n 351 then (bif Nat.blt n 349 then 87 else (bif Nat.blt n 350 then 86 else 87)) else (bif Nat.blt n 352 then 86 else (bif Nat.blt n 353 then 87 else 86)))))) else (bif Nat.blt n 377 then (bif Nat.blt n 365 then (bif Nat.blt n 359 then (bif Nat.blt n 356 then (bif Nat.blt n 355 then 87 else 86) else (bif Nat.blt n 357 then 87 else (bif Nat.blt n 358 then 86 else 87))) else (bif Nat.blt n 362 then (bif Nat.blt n 360 then 86 else (bif Nat.blt n 361 then 87 else 86)) else (bif Nat.blt n 363 then 87 else (bif Nat.blt n 364 then 86 else 87)))) else (bif Nat.blt n 371 then (bif Nat.blt n 368 then (bif Nat.blt n 366 then 86 else (bif Nat.blt n 367 then 87 else 86)) else (bif Nat.blt n 369 then 87 else (bif Nat.blt n 370 then 86 else 87))) else (bif Nat.blt n 374 then (bif Nat.blt n 372 then 86 else (bif Nat.blt n 373 then 87 else 86)) else (bif Nat.blt n 375 then 87 else (bif Nat.blt n 376 then 86 else 87))))) else (bif Nat.blt n 388 then (bif Nat.blt n 382 then (bif Nat.blt n 379 then (bif Nat.blt n 378 then 86 else 87) else (bif Nat.blt n 380 then 86 else (bif Nat.blt n 381 then 87 else 86))) else (bif Nat.blt n 385 then (bif Nat.blt n 383 then 87 else (bif Nat.blt n 384 then 86 else 87)) else (bif Nat.blt n 386 then 86 else (bif Nat.blt n 387 then 87 else 86)))) else (bif Nat.blt n 394 then (bif Nat.blt n 391 then (bif Nat.blt n 389 then 87 else (bif Nat.blt n 390 then 86 else 87)) else (bif Nat.blt n 392 then 86 else (bif Nat.blt n 393 then 87 else 86))) else (bif Nat.blt n 397 then (bif Nat.blt n 395 then 87 else (bif Nat.blt n 396 then 86 else 87)) else (bif Nat.blt n 398 then 86 else (bif Nat.blt n 399 then 87 else 86))))))) else (bif Nat.blt n 446 then (bif Nat.blt n 423 then (bif Nat.blt n 411 then (bif Nat.blt n 405 then (bif Nat.blt n 402 then (bif Nat.blt n 401 then 87 else 86) else (bif Nat.blt n 403 then 87 else (bif Nat.blt n 404 then 86 else 87))) else (bif Nat.blt n 408 then (bif Nat.blt n 406 then 86 else (bif Nat.blt n 407 then 87 else 86)) else (bif Nat.blt n 409 then 87 else (bif Nat.blt n 410 then 86 else 87)))) else (bif Nat.blt n 417 then (bif Nat.blt n 414 then (bif Nat.blt n 412 then 86 else (bif Nat.blt n 413 then 87 else 86)) else (bif Nat.blt n 415 then 87 else (bif Nat.blt n 416 then 86 else 87))) else (bif Nat.blt n 420 then (bif Nat.blt n 418 then 86 else (bif Nat.blt n 419 then 87 else 86)) else (bif Nat.blt n 421 then 87 else (bif Nat.blt n 422 then 86 else 87))))) else (bif Nat.blt n 434 then (bif Nat.blt n 428 then (bif Nat.blt n 425 then (bif Nat.blt n 424 then 86 else 87) else (bif Nat.blt n 426 then 86 else (bif Nat.blt n 427 then 87 else 86))) else (bif Nat.blt n 431 then (bif Nat.blt n 429 then 87 else (bif Nat.blt n 430 then 86 else 87)) else (bif Nat.blt n 432 then 86 else (bif Nat.blt n 433 then 87 else 86)))) else (bif Nat.blt n 440 then (bif Nat.blt n 437 then (bif Nat.blt n 435 then 87 else (bif Nat.blt n 436 then 86 else 87)) else (bif Nat.blt n 438 then 86 else (bif Nat.blt n 439 then 87 else 86))) else (bif Nat.blt n 443 then (bif Nat.blt n 441 then 87 else (bif Nat.blt n 442 then 86 else 87)) else (bif Nat.blt n 444 then 86 else (bif Nat.blt n 445 then 87 else 86)))))) else (bif Nat.blt n 469 then (bif Nat.blt n 457 then (bif Nat.blt n 451 then (bif Nat.blt n 448 then (bif Nat.blt n 447 then 87 else 86) else (bif Nat.blt n 449 then 87 else (bif Nat.blt n 450 then 86 else 87))) else (bif Nat.blt n 454 then (bif Nat.blt n 452 then 86 else (bif Nat.blt n 453 then 87 else 86)) else (bif Nat.blt n 455 then 87 else (bif Nat.blt n 456 then 86 else 87)))) else (bif Nat.blt n 463 then (bif Nat.blt n 460 then (bif Nat.blt n 458 then 86 else (bif Nat.blt n 459 then 87 else 86)) else (bif Nat.blt n 461 then 87 else (bif Nat.blt n 462 then 86 else 87))) else (bif Nat.blt n 466 then (bif Nat.blt n 464 then 86 else (bif Nat.blt n 465 then 87 else 88)) else (bif Nat.blt n 467 then 89 else (bif Nat.blt n 468 then 88 else 89))))) else (bif Nat.blt n 480 then (bif Nat.blt n 474 then (bif Nat.blt n 471 then (bif Nat.blt n 470 then 88 else 89) else (bif Nat.blt n 472 then 88 else (bif Nat.blt n 473 then 89 else 88))) else (bif Nat.blt n 477 then (bif Nat.blt n 475 then 89 else (bif Nat.blt n 476 then 88 else 89)) else (bif Nat.blt n 478 then 88 else (bif Nat.blt n 479 then 89 else 88)))) else (bif Nat.blt n 486 then (bif Nat.blt n 483 then (bif Nat.blt n 481 then 89 else (bif Nat.blt n 482 then 88 else 89)) else (bif Nat.blt n 484 then 88 else (bif Nat.blt n 485 then 89 else 88))) else (bif Nat.blt n 489 then (bif Nat.blt n 487 then 89 else (bif Nat.blt n 488 then 88 else 89)) else (bif Nat.blt n 490 then 88 else (bif Nat.blt n 491 then 89 else 90))))))))) else (bif Nat.blt n 2333 then (bif Nat.blt n 622 then (bif Nat.blt n 576 then (bif Nat.blt n 546 then (bif Nat.blt n 503 then (bif Nat.blt n 497 then (bif Nat.blt n 494 then (bif Nat.blt n 493 then 91 else 90) else (bif Nat.blt n 495 then 91 else (bif Nat.blt n 496 then 90 else 91))) else (bif Nat.blt n 500 then (bif Nat.blt n 498 then 90 else (bif Nat.blt n 499 then 91 else 90)) else (bif Nat.blt n 501 then 91 else (bif Nat.blt n 502 then 90 else 91)))) else (bif Nat.blt n 527 then (bif Nat.blt n 519 then (bif Nat.blt n 504 then 92 else (bif Nat.blt n 505 then 93 else 94)) else (bif Nat.blt n 520 then 95 else (bif Nat.blt n 521 then 96 else 97))) else (bif Nat.blt n 535 then (bif Nat.blt n 528 then 98 else (bif Nat.blt n 534 then 99 else 100)) else (bif Nat.blt n 541 then 101 else (bif Nat.blt n 542 then 102 else 103))))) else (bif Nat.blt n 564 then (bif Nat.blt n 558 then (bif Nat.blt n 548 then (bif Nat.blt n 547 then 104 else 105) else (bif Nat.blt n 556 then 106 else (bif Nat.blt n 557 then 107 else 108))) else (bif Nat.blt n 561 then (bif Nat.blt n 559 then 109 else (bif Nat.blt n 560 then 110 else 111)) else (bif Nat.blt n 562 then 112 else (bif Nat.blt n 563 then 113 else 114)))) else (bif Nat.blt n 570 then (bif Nat.blt n 567 then (bif Nat.blt n 565 then 115 else (bif Nat.blt n 566 then 116 else 117)) else (bif Nat.blt n 568 then 118 else (bif Nat.blt n 569 then 119 else 120))) else (bif Nat.blt n 573 then (bif Nat.blt n 571 then 121 else (bif Nat.blt n 572 then 122 else 123)) else (bif Nat.blt n 574 then 124 else (bif Nat.blt n 575 then 125 else 126)))))) else (bif Nat.blt n 599 then (bif Nat.blt n 587 then (bif Nat.blt n 581 then (bif Nat.blt n 578 then (bif Nat.blt n 577 then 125 else 126) else (bif Nat.blt n 579 then 125 else (bif Nat.blt n 580 then 126 else 125))) else (bif Nat.blt n 584 then (bif Nat.blt n 582 then 126 else (bif Nat.blt n 583 then 125 else 126)) else (bif Nat.blt n 585 then 125 else (bif Nat.blt n 586 then 126 else 125)))) else (bif Nat.blt n 593 then (bif Nat.blt n 590 then (bif Nat.blt n 588 then 126 else (bif Nat.blt n 589 then 125 else 126)) else (bif Nat.blt n 591 then 127 else (bif Nat.blt n 592 then 128 else 127))) else (bif Nat.blt n 596 then (bif Nat.blt n 594 then 128 else (bif Nat.blt n 595 then 127 else 128)) else (bif Nat.blt n 597 then 127 else (bif Nat.blt n 598 then 128 else 127))))) else (bif Nat.blt n 610 then (bif Nat.blt n 604 then (bif Nat.blt n 601 then (bif Nat.blt n 600 then 128 else 127) else (bif Nat.blt n 602 then 128 else (bif Nat.blt n 603 then 127 else 128))) else (bif Nat.blt n 607 then (bif Nat.blt n 605 then 127 else (bif Nat.blt n 606 then 128 else 127)) else (bif Nat.blt n 608 then 128 else (bif Nat.blt n 609 then 127 else 128)))) else (bif Nat.blt n 616 then (bif Nat.blt n 613 then (bif Nat.blt n 611 then 127 else (bif Nat.blt n 612 then 128 else 127)) else (bif Nat.blt n 614 then 128 else (bif Nat.blt n 615 then 127 else 128))) else (bif Nat.blt n 619 then (bif Nat.blt n 617 then 127 else (bif Nat.blt n 618 then 128 else 129)) else (bif Nat.blt n 620 then 130 else (bif Nat.blt n 621 then 131 else 132))))))) else (bif Nat.blt n 1316 then (bif Nat.blt n 827 then (bif Nat.blt n 796 then (bif Nat.blt n 783 then (bif Nat.blt n 773 then (bif Nat.blt n 772 then 133 else 134) else (bif Nat.blt n 774 then 135 else (bif Nat.blt n 782 then 136 else 137))) else (bif Nat.blt n 793 then (bif Nat.blt n 791 then 138 else (bif Nat.blt n 792 then 139 else 140)) else (bif Nat.blt n 794 then 141 else (bif Nat.blt n 795 then 142 else 143)))) else (bif Nat.blt n 821 then (bif Nat.blt n 818 then (bif Nat.blt n 816 then 144 else (bif Nat.blt n 817 then 145 else 146)) else (bif Nat.blt n 819 then 147 else (bif Nat.blt n 820 then 148 else 149))) else (bif Nat.blt n 824 then (bif Nat.blt n 822 then 150 else (bif Nat.blt n 823 then 151 else 152)) else (bif Nat.blt n 825 then 153 else (bif Nat.blt n 826 then 154 else 155))))) else (bif Nat.blt n 843 then (bif Nat.blt n 832 then (bif Nat.blt n 829 then (bif Nat.blt n 828 then 156 else 157) else (bif Nat.blt n 830 then 158 else (bif Nat.blt n 831 then 159 else 160))) else (bif Nat.blt n 835 then (bif Nat.blt n 833 then 161 else (bif Nat.blt n 834 then 162 else 163)) else (bif Nat.blt n 836 then 164 else (bif Nat.blt n 842 then 165 else 166)))) else (bif Nat.blt n 852 then (bif Nat.blt n 846 then (bif Nat.blt n 844 then 167 else (bif Nat.blt n 845 then 168 else 169)) else (bif Nat.blt n 850 then 170 else (bif Nat.blt n 851 then 171 else 172))) else (bif Nat.blt n 914 then (bif Nat.blt n 912 then 173 else (bif Nat.blt n 913 then 174 else 175)) else (bif Nat.blt n 915 then 176 else (bif Nat.blt n 916 then 177 else 178)))))) else (bif Nat.blt n 1974 then (bif Nat.blt n 1468 then (bif Nat.blt n 1321 then (bif Nat.blt n 1318 then (bif Nat.blt n 1317 then 179 else 180) else (bif Nat.blt n 1319 then 181 else (bif Nat.blt n 1320 then 182 else 183))) else (bif Nat.blt n 1442 then (bif Nat.blt n 1345 then 184 else (bif Nat.blt n 1346 then 185 else 186)) else (bif Nat.blt n 1443 then 187 else (bif Nat.blt n 1467 then 188 else 189)))) else (bif Nat.blt n 1895 then (bif Nat.blt n 1693 then (bif Nat.blt n 1492 then 190 else (bif Nat.blt n 1493 then 191 else 192)) else (bif Nat.blt n 1694 then 193 else (bif Nat.blt n 1894 then 194 else 195))) else (bif Nat.blt n 1968 then (bif Nat.blt n 1955 then 196 else (bif Nat.blt n 1956 then 197 else 198)) else (bif Nat.blt n 1969 then 199 else (bif Nat.blt n 1970 then 200 else 201))))) else (bif Nat.blt n 2185 then (bif Nat.blt n 1979 then (bif Nat.blt n 1976 then (bif Nat.blt n 1975 then 202 else 203) else (bif Nat.blt n 1977 then 204 else (bif Nat.blt n 1978 then 205 else 206))) else (bif Nat.blt n 1983 then (bif Nat.blt n 1981 then 207 else (bif Nat.blt n 1982 then 208 else 209)) else (bif Nat.blt n 1984 then 210 else (bif Nat.blt n 1985 then 211 else 212)))) else (bif Nat.blt n 2296 then (bif Nat.blt n 2195 then (bif Nat.blt n 2186 then 213 else (bif Nat.blt n 2194 then 214 else 215)) else (bif Nat.blt n 2235 then 216 else (bif Nat.blt n 2236 then 217 else 218))) else (bif Nat.blt n 2318 then (bif Nat.blt n 2297 then 219 else (bif Nat.blt n 2298 then 220 else 221)) else (bif Nat.blt n 2319 then 222 else (bif Nat.blt n 2332 then 223 else 224)))))))) else (bif Nat.blt n 2533 then (bif Nat.blt n 2487 then (bif Nat.blt n 2464 then (bif Nat.blt n 2452 then (bif Nat.blt n 2446 then (bif Nat.blt n 2344 then (bif Nat.blt n 2343 then 225 else 226) else (bif Nat.blt n 2345 then 227 else (bif Nat.blt n 2445 then 228 else 229))) else (bif Nat.blt n 2449 then (bif Nat.blt n 2447 then 230 else (bif Nat.blt n 2448 then 231 else 232)) else (bif Nat.blt n 2450 then 233 else (bif Nat.blt n 2451 then 234 else 235)))) else (bif Nat.blt n 2458 then (bif Nat.blt n 2455 then (bif Nat.blt n 2453 then 236 else (bif Nat.blt n 2454 then 237 else 238)) else (bif Nat.blt n 2456 then 239 else (bif Nat.blt n 2457 then 240 else 241))) else (bif Nat.blt n 2461 then (bif Nat.blt n 2459 then 242 else (bif Nat.blt n 2460 then 243 else 244)) else (bif Nat.blt n 2462 then 245 else (bif Nat.blt n 2463 then 246 else 247))))) else (bif Nat.blt n 2475 then (bif Nat.blt n 2469 then (bif Nat.blt n 2466 then (bif Nat.blt n 2465 then 248 else 249) else (bif Nat.blt n 2467 then 250 else (bif Nat.blt n 2468 then 251 else 252))) else (bif Nat.blt n 2472 then (bif Nat.blt n 2470 then 253 else (bif Nat.blt n 2471 then 254 else 255)) else (bif Nat.blt n 2473 then 256 else (bif Nat.blt n 2474 then 257 else 258)))) else (bif Nat.blt n 2481 then (bif Nat.blt n 2478 then (bif Nat.blt n 2476 then 259 else (bif Nat.blt n 2477 then 260 else 261)) else (bif Nat.blt n 2479 then 262 else (bif Nat.blt n 2480 then 263 else 264))) else (bif Nat.blt n 2484 then (bif Nat.blt n 2482 then 265 else (bif Nat.blt n 2483 then 266 else 267)) else (bif Nat.blt n 2485 then 268 else (bif Nat.blt n 2486 then 269 else 270)))))) else (bif Nat.blt n 2510 then (bif Nat.blt n 2498 then (bif Nat.blt n 2492 then (bif Nat.blt n 2489 then (bif Nat.blt n 2488 then 271 else 272) else (bif Nat.blt n 2490 then 273 else (bif Nat.blt n 2491 then 274 else 275))) else (bif Nat.blt n 2495 then (bif Nat.blt n 2493 then 276 else (bif Nat.blt n 2494 then 277 else 278)) else (bif Nat.blt n 2496 then 279 else (bif Nat.blt n 2497 then 280 else 281)))) else (bif Nat.blt n 2504 then (bif Nat.blt n 2501 then (bif Nat.blt n 2499 then 282 else (bif Nat.blt n 2500 then 283 else 284)) else (bif Nat.blt n 2502 then 285 else (bif Nat.blt n 2503 then 286 else 287))) else (bif Nat.blt n 2507 then (bif Nat.blt n 2505 then 288 else (bif Nat.blt n 2506 then 289 else 290)) else (bif Nat.blt n 2508 then 291 else (bif Nat.blt n 2509 then 292 else 293))))) else (bif Nat.blt n 2521 then (bif Nat.blt n 2515 then (bif Nat.blt n 2512 then (bif Nat.blt n 2511 then 294 else 295) else (bif Nat.blt n 2513 then 296 else (bif Nat.blt n 2514 then 297 else 298))) else (bif Nat.blt n 2518 then (bif Nat.blt n 2516 then 299 else (bif Nat.blt n 2517 then 300 else 301)) else (bif Nat.blt n 2519 then 302 else (bif Nat.blt n 2520 then 303 else 304)))) else (bif Nat.blt n 2527 then (bif Nat.blt n 2524 then (bif Nat.blt n 2522 then 305 else (bif Nat.blt n 2523 then 306 else 307)) else (bif Nat.blt n 2525 then 308 else (bif Nat.blt n 2526 then 309 else 310))) else (bif Nat.blt n 2530 then (bif Nat.blt n 2528 then 311 else (bif Nat.blt n 2529 then 312 else 313)) else (bif Nat.blt n 2531 then 314 else (bif Nat.blt n 2532 then 315 else 316))))))) else (bif Nat.blt n 2581 then (bif Nat.blt n 2558 then (bif Nat.blt n 2544 then (bif Nat.blt n 2538 then (bif Nat.blt n 2535 then (bif Nat.blt n 2534 then 317 else 318) else (bif Nat.blt n 2536 then 319 else (bif Nat.blt n 2537 then 320 else 321))) else (bif Nat.blt n 2541 then (bif Nat.blt n 2539 then 322 else (bif Nat.blt n 2540 then 323 else 324)) else (bif Nat.blt n 2542 then 325 else (bif Nat.blt n 2543 then 326 else 327)))) else (bif Nat.blt n 2552 then (bif Nat.blt n 2547 then (bif Nat.blt n 2545 then 328 else (bif Nat.blt n 2546 then 329 else 330)) else (bif Nat.blt n 2550 then 331 else (bif Nat.blt n 2551 then 332 else 333))) else (bif Nat.blt n 2555 then (bif Nat.blt n 2553 then 334 else (bif Nat.blt n 2554 then 335 else 336)) else (bif Nat.blt n 2556 then 337 else (bif Nat.blt n 2557 then 338 else 339))))) else (bif Nat.blt n 2569 then (bif Nat.blt n 2563 then (bif Nat.blt n 2560 then (bif Nat.blt n 2559 then 340 else 341) else (bif Nat.blt n 2561 then 342 else (bif Nat.blt n 2562 then 343 else 344))) else (bif Nat.blt n 2566 then (bif Nat.blt n 2564 then 345 else (bif Nat.blt n 2565 then 346 else 347)) else (bif Nat.blt n 2567 then 348 else (bif Nat.blt n 2568 then 349 else 350)))) else (bif Nat.blt n 2575 then (bif Nat.blt n 2572 then (bif Nat.blt n 2570 then 351 else (bif Nat.blt n 2571 then 352 else 353)) else (bif Nat.blt n 2573 then 354 else (bif Nat.blt n 2574 then 355 else 356))) else (bif Nat.blt n 2578 then (bif Nat.blt n 2576 then 357 else (bif Nat.blt n 2577 then 358 else 359)) else (bif Nat.blt n 2579 then 360 else (bif Nat.blt n 2580 then 361 else 362)))))) else (bif Nat.blt n 2604 then (bif Nat.blt n 2592 then (bif Nat.blt n 2586 then (bif Nat.blt n 2583 then (bif Nat.blt n 2582 then 363 else 364) else (bif Nat.blt n 2584 then 365 else (bif Nat.blt n 2585 then 366 else 367))) else (bif Nat.blt n 2589 then (bif Nat.blt n 2587 then 368 else (bif Nat.blt n 2588 then 369 else 370)) else (bif Nat.blt n 2590 then 371 else (bif Nat.blt n 2591 then 372 else 373)))) else (bif Nat.blt n 2598 then (bif Nat.blt n 2595 then (bif Nat.blt n 2593 then 374 else (bif Nat.blt n 2594 then 375 else 376)) else (bif Nat.blt n 2596 then 377 else (bif Nat.blt n 2597 then 378 else 379))) else (bif Nat.blt n 2601 then (bif Nat.blt n 2599 then 380 else (bif Nat.blt n 2600 then 381 else 382)) else (bif Nat.blt n 2602 then 383 else (bif Nat.blt n 2603 then 384 else 385))))) else (bif Nat.blt n 2616 then (bif Nat.blt n 2610 then (bif Nat.blt n 2607 then (bif Nat.blt n 2605 then 386 else (bif Nat.blt n 2606 then 387 else 388)) else (bif Nat.blt n 2608 then 389 else (bif Nat.blt n 2609 then 390 else 391))) else (bif Nat.blt n 2613 then (bif Nat.blt n 2611 then 392 else (bif Nat.blt n 2612 then 393 else 394)) else (bif Nat.blt n 2614 then 395 else (bif Nat.blt n 2615 then 396 else 397)))) else (bif Nat.blt n 2622 then (bif Nat.blt n 2619 then (bif Nat.blt n 2617 then 398 else (bif Nat.blt n 2618 then 399 else 400)) else (bif Nat.blt n 2620 then 401 else (bif Nat.blt n 2621 then 402 else 403))) else (bif Nat.blt n 2625 then (bif Nat.blt n 2623 then 404 else (bif Nat.blt n 2624 then 405 else 406)) else (bif Nat.blt n 2626 then 407 else (bif Nat.blt n 2627 then 408 else 409))))))))))
/-- script -/
def sp1 : Nat × Nat × Sg := (0, 0, [])
/-- DX -/
def sp2 : Nat × Nat × Sg := (0, 16, [(16, ((Int.negSucc 1), (Int.ofNat 2), 0))])
/-- DY -/
def sp3 : Nat × Nat × Sg := (0, 16, [(16, ((Int.negSucc 1), (Int.ofNat 2), 0))])
/-- LENGTH -/
def sp4 : Nat × Nat × Sg := (0, 16, [(16, ((Int.ofNat 10), (Int.ofNat 22), 0))])
/-- cell4 -/
def sp5 : Nat × Nat × Sg := (27, 0, [(1, ((Int.ofNat 5), (Int.ofNat 5), 6)), (2, ((Int.ofNat 34), (Int.ofNat 34), 27)), (3, ((Int.ofNat 161), (Int.ofNat 161), 55)), (4, ((Int.ofNat 503), (Int.ofNat 503), 92)), (5, ((Int.ofNat 618), (Int.ofNat 618), 129)), (6, ((Int.ofNat 833), (Int.ofNat 833), 162)), (7, ((Int.ofNat 1319), (Int.ofNat 1319), 182)), (8, ((Int.ofNat 1982), (Int.ofNat 1982), 209)), (9, ((Int.ofNat 2447), (Int.ofNat 2447), 231)), (10, ((Int.ofNat 0), (Int.ofNat 0), 0))])
/-- RoadHouse.ways -/
def sp6 : Nat × Nat × Sg := (26, 0, [(1, ((Int.ofNat 6), (Int.ofNat 6), 7)), (2, ((Int.ofNat 7), (Int.ofNat 7), 8)), (3, ((Int.ofNat 8), (Int.ofNat 8), 9)), (4, ((Int.ofNat 9), (Int.ofNat 9), 10)), (5, ((Int.ofNat 10), (Int.ofNat 10), 11)), (6, ((Int.ofNat 11), (Int.ofNat 11), 12)), (7, ((Int.ofNat 12), (Int.ofNat 12), 13)), (8, ((Int.ofNat 13), (Int.ofNat 13), 14)), (9, ((Int.ofNat 18), (Int.ofNat 18), 16)), (10, ((Int.ofNat 19), (Int.ofNat 19), 17)), (11, ((Int.ofNat 1), (Int.ofNat 1), 0)), (12, ((Int.ofNat 9999), (Int.ofNat 9999), 0)), (13, ((Int.ofNat 8), (Int.ofNat 8), 0)), (14, ((Int.ofNat 20), (Int.ofNat 20), 18)), (15, ((Int.ofNat 0), (Int.ofNat 0), 0)), (16, ((Int.ofNat 0), (Int.ofNat 0), 0)), (17, ((Int.ofNat 0), (Int.ofNat 0), 0)), (18, ((Int.negSucc 0), (Int.negSucc 0), 0)), (19, ((Int.ofNat 27), (Int.ofNat 27), 20))])
/-- RoadHouse$Way.cost -/
def sp7 : Nat × Nat × Sg := (0, 144, [(144, ((Int.ofNat 0), (Int.ofNat 0), 0))])
/-- RoadHouse$Way.level -/
def sp8 : Nat × Nat × Sg := (0, 144, [(144, ((Int.ofNat 0), (Int.ofNat 0), 0))])
/-- RoadHouse$Way.barred -/
def sp9 : Nat × Nat × Sg := (2, 144, [(144, ((Int.ofNat 0), (Int.ofNat 0), 0))])
/-- RoadHouse$Way.most -/
def sp10 : Nat × Nat × Sg := (0, 144, [(144, ((Int.ofNat 0), (Int.ofNat 0), 0))])
/-- RoadHouse$Way.cents -/
def sp11 : Nat × Nat × Sg := (0, 144, [(144, ((Int.ofNat 0), (Int.ofNat 0), 0))])
/-- RoadHouse$Way.zone -/
def sp12 : Nat × Nat × Sg := (0, 144, [(144, ((Int.ofNat 0), (Int.ofNat 0), 0))])
/-- RoadHouse$Way.marks -/
def sp13 : Nat × Nat × Sg := (0, 144, [(144, ((Int.ofNat 0), (Int.ofNat 0), 0))])
/-- RoadHouse$Way.value -/
def sp14 : Nat × Nat × Sg := (6, 4, [(4, ((Int.ofNat 14), (Int.ofNat 17), 15))])
/-- RoadHouse$Way.value[] -/
def sp15 : Nat × Nat × Sg := (0, 144, [(144, ((Int.ofNat 0), (Int.ofNat 0), 0))])
/-- RoadHouse$Way.above -/
def sp16 : Nat × Nat × Sg := (0, 4, [(4, ((Int.ofNat 0), (Int.ofNat 0), 0))])
/-- RoadHouse$Way.below -/
def sp17 : Nat × Nat × Sg := (0, 4, [(4, ((Int.ofNat 1), (Int.ofNat 1), 0))])
/-- RoadHouse$Way.found -/
def sp18 : Nat × Nat × Sg := (6, 6, [(6, ((Int.ofNat 21), (Int.ofNat 26), 19))])
/-- RoadHouse$Way.found[] -/
def sp19 : Nat × Nat × Sg := (0, 1, [(1, ((Int.ofNat 0), (Int.ofNat 0), 0))])
/-- RoadHouse$Way.search -/
def sp20 : Nat × Nat × Sg := (22, 0, [(1, ((Int.ofNat 28), (Int.ofNat 28), 21)), (2, ((Int.ofNat 0), (Int.ofNat 0), 0)), (3, ((Int.ofNat 29), (Int.ofNat 29), 22)), (4, ((Int.ofNat 30), (Int.ofNat 30), 23)), (5, ((Int.ofNat 31), (Int.ofNat 31), 24)), (6, ((Int.ofNat 32), (Int.ofNat 32), 25)), (7, ((Int.ofNat 33), (Int.ofNat 33), 26)), (8, ((Int.ofNat 0), (Int.ofNat 0), 0)), (9, ((Int.negSucc 0), (Int.negSucc 0), 0)), (10, ((Int.ofNat 0), (Int.ofNat 0), 0)), (11, ((Int.ofNat 0), (Int.ofNat 0), 0))])
/-- RoadHouse$Search.shared -/
def sp21 : Nat × Nat × Sg := (2, 144, [(144, ((Int.ofNat 0), (Int.ofNat 0), 0))])
/-- RoadHouse$Search.price -/
def sp22 : Nat × Nat × Sg := (1, 144, [(144, ((Int.ofNat 0), (Int.ofNat 0), 0))])
/-- RoadHouse$Search.cost -/
def sp23 : Nat × Nat × Sg := (1, 1, [(1, ((Int.ofNat 0), (Int.ofNat 0), 0))])
/-- RoadHouse$Search.count -/
def sp24 : Nat × Nat × Sg := (1, 1, [(1, ((Int.ofNat 0), (Int.ofNat 0), 0))])
/-- RoadHouse$Search.heap -/
def sp25 : Nat × Nat × Sg := (0, 1, [(1, ((Int.ofNat 0), (Int.ofNat 0), 0))])
/-- RoadHouse$Search.spot -/
def sp26 : Nat × Nat × Sg := (0, 1, [(1, ((Int.ofNat 0), (Int.ofNat 0), 0))])
/-- RoadHouse.soil -/
def sp27 : Nat × Nat × Sg := (20, 0, [(1, ((Int.ofNat 35), (Int.ofNat 35), 28)), (2, ((Int.ofNat 36), (Int.ofNat 36), 29)), (3, ((Int.ofNat 45), (Int.ofNat 45), 31)), (4, ((Int.ofNat 50), (Int.ofNat 50), 33)), (5, ((Int.ofNat 59), (Int.ofNat 59), 35)), (6, ((Int.ofNat 66), (Int.ofNat 66), 37)), (7, ((Int.ofNat 71), (Int.ofNat 71), 39)), (8, ((Int.ofNat 72), (Int.ofNat 72), 40)), (9, ((Int.ofNat 0), (Int.ofNat 0), 0)), (10, ((Int.ofNat 0), (Int.ofNat 0), 0)), (11, ((Int.ofNat 73), (Int.ofNat 73), 41)), (12, ((Int.ofNat 86), (Int.ofNat 86), 43)), (13, ((Int.ofNat 99), (Int.ofNat 99), 45)), (14, ((Int.ofNat 112), (Int.ofNat 112), 47)), (15, ((Int.ofNat 113), (Int.ofNat 113), 48)), (16, ((Int.ofNat 114), (Int.ofNat 114), 49)), (17, ((Int.ofNat 115), (Int.ofNat 115), 50)), (18, ((Int.ofNat 116), (Int.ofNat 116), 51)), (19, ((Int.ofNat 159), (Int.ofNat 159), 53)), (20, ((Int.ofNat 160), (Int.ofNat 160), 54))])
/-- RoadHouse$Earth.size -/
def sp28 : Nat × Nat × Sg := (0, 4, [(4, ((Int.ofNat 0), (Int.ofNat 0), 0))])
/-- RoadHouse$Earth.cut -/
def sp29 : Nat × Nat × Sg := (6, 8, [(8, ((Int.ofNat 37), (Int.ofNat 44), 30))])
/-- RoadHouse$Earth.cut[] -/
def sp30 : Nat × Nat × Sg := (0, 4, [(1, ((Int.ofNat 0), (Int.ofNat 0), 0)), (2, ((Int.ofNat 0), (Int.ofNat 0), 0)), (3, ((Int.ofNat 0), (Int.ofNat 0), 0)), (4, ((Int.ofNat 0), (Int.ofNat 0), 0))])
/-- RoadHouse$Earth.pit -/
def sp31 : Nat × Nat × Sg := (6, 4, [(4, ((Int.ofNat 46), (Int.ofNat 49), 32))])
/-- RoadHouse$Earth.pit[] -/
def sp32 : Nat × Nat × Sg := (0, 2, [(1, ((Int.ofNat 0), (Int.ofNat 0), 0)), (2, ((Int.ofNat 0), (Int.ofNat 0), 0))])
/-- RoadHouse$Earth.fill -/
def sp33 : Nat × Nat × Sg := (6, 8, [(8, ((Int.ofNat 51), (Int.ofNat 58), 34))])
/-- RoadHouse$Earth.fill[] -/
def sp34 : Nat × Nat × Sg := (0, 3, [(1, ((Int.ofNat 0), (Int.ofNat 0), 0)), (2, ((Int.ofNat 0), (Int.ofNat 0), 0)), (3, ((Int.ofNat 0), (Int.ofNat 0), 0))])
/-- RoadHouse$Earth.way -/
def sp35 : Nat × Nat × Sg := (6, 6, [(6, ((Int.ofNat 60), (Int.ofNat 65), 36))])
/-- RoadHouse$Earth.way[] -/
def sp36 : Nat × Nat × Sg := (0, 4, [(1, ((Int.ofNat 0), (Int.ofNat 0), 0)), (2, ((Int.ofNat 0), (Int.ofNat 0), 0)), (3, ((Int.ofNat 0), (Int.ofNat 0), 0)), (4, ((Int.ofNat 0), (Int.ofNat 0), 0))])
/-- RoadHouse$Earth.swell -/
def sp37 : Nat × Nat × Sg := (6, 4, [(4, ((Int.ofNat 67), (Int.ofNat 70), 38))])
/-- RoadHouse$Earth.swell[] -/
def sp38 : Nat × Nat × Sg := (0, 2, [(1, ((Int.ofNat 1), (Int.ofNat 1), 0)), (2, ((Int.ofNat 1), (Int.ofNat 1), 0))])
/-- RoadHouse$Earth.unfit -/
def sp39 : Nat × Nat × Sg := (0, 4, [(4, ((Int.ofNat 0), (Int.ofNat 0), 0))])
/-- RoadHouse$Earth.most -/
def sp40 : Nat × Nat × Sg := (0, 12, [(12, ((Int.negSucc 0), (Int.negSucc 0), 0))])
/-- RoadHouse$Earth.plan -/
def sp41 : Nat × Nat × Sg := (7, 12, [(12, ((Int.ofNat 74), (Int.ofNat 85), 42))])
/-- RoadHouse$Earth.plan[] -/
def sp42 : Nat × Nat × Sg := (1, 8, [(1, ((Int.ofNat 0), (Int.ofNat 0), 0)), (2, ((Int.ofNat 0), (Int.ofNat 0), 0)), (3, ((Int.ofNat 0), (Int.ofNat 0), 0)), (4, ((Int.ofNat 0), (Int.ofNat 0), 0)), (5, ((Int.ofNat 0), (Int.ofNat 0), 0)), (6, ((Int.ofNat 0), (Int.ofNat 0), 0)), (7, ((Int.ofNat 0), (Int.ofNat 0), 0)), (8, ((Int.ofNat 0), (Int.ofNat 0), 0))])
/-- RoadHouse$Earth.flow -/
def sp43 : Nat × Nat × Sg := (7, 12, [(12, ((Int.ofNat 87), (Int.ofNat 98), 44))])
/-- RoadHouse$Earth.flow[] -/
def sp44 : Nat × Nat × Sg := (1, 8, [(1, ((Int.ofNat 0), (Int.ofNat 0), 0)), (2, ((Int.ofNat 0), (Int.ofNat 0), 0)), (3, ((Int.ofNat 0), (Int.ofNat 0), 0)), (4, ((Int.ofNat 0), (Int.ofNat 0), 0)), (5, ((Int.ofNat 0), (Int.ofNat 0), 0)), (6, ((Int.ofNat 0), (Int.ofNat 0), 0)), (7, ((Int.ofNat 0), (Int.ofNat 0), 0)), (8, ((Int.ofNat 0), (Int.ofNat 0), 0))])
/-- RoadHouse$Earth.unit -/
def sp45 : Nat × Nat × Sg := (7, 12, [(12, ((Int.ofNat 100), (Int.ofNat 111), 46))])
/-- RoadHouse$Earth.unit[] -/
def sp46 : Nat × Nat × Sg := (1, 8, [(1, ((Int.ofNat 0), (Int.ofNat 0), 0)), (2, ((Int.ofNat 0), (Int.ofNat 0), 0)), (3, ((Int.ofNat 0), (Int.ofNat 0), 0)), (4, ((Int.ofNat 0), (Int.ofNat 0), 0)), (5, ((Int.ofNat 0), (Int.ofNat 0), 0)), (6, ((Int.ofNat 0), (Int.ofNat 0), 0)), (7, ((Int.ofNat 0), (Int.ofNat 0), 0)), (8, ((Int.ofNat 0), (Int.ofNat 0), 0))])
/-- RoadHouse$Earth.used -/
def sp47 : Nat × Nat × Sg := (1, 12, [(12, ((Int.ofNat 0), (Int.ofNat 0), 0))])
/-- RoadHouse$Earth.frozen -/
def sp48 : Nat × Nat × Sg := (0, 12, [(12, ((Int.ofNat 0), (Int.ofNat 0), 0))])
/-- RoadHouse$Earth.far -/
def sp49 : Nat × Nat × Sg := (1, 21, [(21, ((Int.ofNat 0), (Int.ofNat 0), 0))])
/-- RoadHouse$Earth.from -/
def sp50 : Nat × Nat × Sg := (0, 21, [(21, ((Int.ofNat 0), (Int.ofNat 0), 0))])
/-- RoadHouse$Earth.pipe -/
def sp51 : Nat × Nat × Sg := (7, 42, [(42, ((Int.ofNat 117), (Int.ofNat 158), 52))])
/-- RoadHouse$Earth.pipe[] -/
def sp52 : Nat × Nat × Sg := (1, 42, [(42, ((Int.ofNat 0), (Int.ofNat 0), 0))])
/-- RoadHouse$Earth.queue -/
def sp53 : Nat × Nat × Sg := (0, 42, [(42, ((Int.ofNat 0), (Int.ofNat 0), 0))])
/-- RoadHouse$Earth.reached -/
def sp54 : Nat × Nat × Sg := (0, 42, [(42, ((Int.ofNat 0), (Int.ofNat 0), 0))])
/-- RoadHouse.beams -/
def sp55 : Nat × Nat × Sg := (16, 0, [(1, ((Int.ofNat 1), (Int.ofNat 1), 0)), (2, ((Int.ofNat 162), (Int.ofNat 162), 56)), (3, ((Int.ofNat 166), (Int.ofNat 166), 58)), (4, ((Int.ofNat 167), (Int.ofNat 167), 59)), (5, ((Int.ofNat 168), (Int.ofNat 168), 60)), (6, ((Int.ofNat 169), (Int.ofNat 169), 61)), (7, ((Int.ofNat 0), (Int.ofNat 0), 0)), (8, ((Int.ofNat 179), (Int.ofNat 179), 63)), (9, ((Int.ofNat 0), (Int.ofNat 0), 0)), (10, ((Int.ofNat 0), (Int.ofNat 0), 0)), (11, ((Int.ofNat 0), (Int.ofNat 0), 0)), (12, ((Int.ofNat 180), (Int.ofNat 180), 64)), (13, ((Int.ofNat 0), (Int.ofNat 0), 0)), (14, ((Int.ofNat 181), (Int.ofNat 181), 65)), (15, ((Int.ofNat 0), (Int.ofNat 0), 0)), (16, ((Int.ofNat 182), (Int.ofNat 182), 66)), (17, ((Int.ofNat 191), (Int.ofNat 191), 68)), (18, ((Int.ofNat 192), (Int.ofNat 192), 69)), (19, ((Int.ofNat 193), (Int.ofNat 193), 70)), (20, ((Int.ofNat 194), (Int.ofNat 194), 71)), (21, ((Int.ofNat 195), (Int.ofNat 195), 72)), (22, ((Int.ofNat 196), (Int.ofNat 196), 73))])
/-- RoadHouse$Beams.size -/
def sp56 : Nat × Nat × Sg := (6, 3, [(3, ((Int.ofNat 163), (Int.ofNat 165), 57))])
/-- RoadHouse$Beams.size[] -/
def sp57 : Nat × Nat × Sg := (0, 2, [(1, ((Int.ofNat 1), (Int.ofNat 1), 0)), (2, ((Int.ofNat 1), (Int.ofNat 1), 0))])
/-- RoadHouse$Beams.hinged -/
def sp58 : Nat × Nat × Sg := (2, 6, [(6, ((Int.ofNat 0), (Int.ofNat 0), 0))])
/-- RoadHouse$Beams.held -/
def sp59 : Nat × Nat × Sg := (2, 8, [(8, ((Int.ofNat 0), (Int.ofNat 1), 0))])
/-- RoadHouse$Beams.settled -/
def sp60 : Nat × Nat × Sg := (0, 4, [(4, ((Int.ofNat 0), (Int.ofNat 0), 0))])
/-- RoadHouse$Beams.row -/
def sp61 : Nat × Nat × Sg := (6, 9, [(9, ((Int.ofNat 170), (Int.ofNat 178), 62))])
/-- RoadHouse$Beams.row[] -/
def sp62 : Nat × Nat × Sg := (0, 3, [(1, ((Int.ofNat 0), (Int.ofNat 0), 0)), (2, ((Int.ofNat 0), (Int.ofNat 0), 0)), (3, ((Int.ofNat 0), (Int.ofNat 0), 0))])
/-- RoadHouse$Beams.text -/
def sp63 : Nat × Nat × Sg := (4, 50, [(50, ((Int.ofNat 0), (Int.ofNat 0), 0))])
/-- RoadHouse$Beams.looseMove -/
def sp64 : Nat × Nat × Sg := (2, 8, [(8, ((Int.ofNat 0), (Int.ofNat 0), 0))])
/-- RoadHouse$Beams.moveOf -/
def sp65 : Nat × Nat × Sg := (0, 8, [(8, ((Int.ofNat 0), (Int.ofNat 0), 0))])
/-- RoadHouse$Beams.force -/
def sp66 : Nat × Nat × Sg := (7, 8, [(8, ((Int.ofNat 183), (Int.ofNat 190), 67))])
/-- RoadHouse$Beams.force[] -/
def sp67 : Nat × Nat × Sg := (1, 8, [(1, ((Int.ofNat 0), (Int.ofNat 0), 0)), (2, ((Int.ofNat 0), (Int.ofNat 0), 0)), (3, ((Int.ofNat 0), (Int.ofNat 0), 0)), (4, ((Int.ofNat 0), (Int.ofNat 0), 0)), (5, ((Int.ofNat 0), (Int.ofNat 0), 0)), (6, ((Int.ofNat 0), (Int.ofNat 0), 0)), (7, ((Int.ofNat 0), (Int.ofNat 0), 0)), (8, ((Int.ofNat 0), (Int.ofNat 0), 0))])
/-- RoadHouse$Beams.grid -/
def sp68 : Nat × Nat × Sg := (8, 128, [(128, ((Int.ofNat 209), (Int.ofNat 463), 86))])
/-- RoadHouse$Beams.point -/
def sp69 : Nat × Nat × Sg := (8, 13, [(13, ((Int.ofNat 465), (Int.ofNat 489), 88))])
/-- RoadHouse$Beams.aid -/
def sp70 : Nat × Nat × Sg := (8, 6, [(6, ((Int.ofNat 491), (Int.ofNat 501), 90))])
/-- RoadHouse$Beams.load -/
def sp71 : Nat × Nat × Sg := (1, 8, [(8, ((Int.ofNat 0), (Int.ofNat 0), 0))])
/-- RoadHouse$Beams.counts -/
def sp72 : Nat × Nat × Sg := (1, 10, [(10, ((Int.ofNat 0), (Int.ofNat 0), 0))])
/-- RoadHouse$Beams.told -/
def sp73 : Nat × Nat × Sg := (21, 0, [(1, ((Int.ofNat 197), (Int.ofNat 197), 74)), (2, ((Int.ofNat 199), (Int.ofNat 199), 76)), (3, ((Int.ofNat 201), (Int.ofNat 201), 78)), (4, ((Int.ofNat 203), (Int.ofNat 203), 80)), (5, ((Int.ofNat 205), (Int.ofNat 205), 82)), (6, ((Int.ofNat 207), (Int.ofNat 207), 84))])
/-- RoadHouse$Ratio.up -/
def sp74 : Nat × Nat × Sg := (17, 0, [(1, ((Int.ofNat 198), (Int.ofNat 198), 75)), (2, ((Int.ofNat 0), (Int.ofNat 0), 0)), (3, ((Int.ofNat 0), (Int.ofNat 0), 0))])
/-- RoadHouse$Big.d -/
def sp75 : Nat × Nat × Sg := (0, 160, [(160, ((Int.ofNat 0), (Int.ofNat 0), 0))])
/-- RoadHouse$Ratio.low -/
def sp76 : Nat × Nat × Sg := (17, 0, [(1, ((Int.ofNat 200), (Int.ofNat 200), 77)), (2, ((Int.ofNat 1), (Int.ofNat 1), 0)), (3, ((Int.ofNat 1), (Int.ofNat 1), 0))])
/-- RoadHouse$Big.d -/
def sp77 : Nat × Nat × Sg := (0, 160, [(160, ((Int.ofNat 0), (Int.ofNat 1), 0))])
/-- RoadHouse$Ratio.x -/
def sp78 : Nat × Nat × Sg := (17, 0, [(1, ((Int.ofNat 202), (Int.ofNat 202), 79)), (2, ((Int.ofNat 0), (Int.ofNat 0), 0)), (3, ((Int.ofNat 0), (Int.ofNat 0), 0))])
/-- RoadHouse$Big.d -/
def sp79 : Nat × Nat × Sg := (0, 160, [(160, ((Int.ofNat 0), (Int.ofNat 0), 0))])
/-- RoadHouse$Ratio.y -/
def sp80 : Nat × Nat × Sg := (17, 0, [(1, ((Int.ofNat 204), (Int.ofNat 204), 81)), (2, ((Int.ofNat 0), (Int.ofNat 0), 0)), (3, ((Int.ofNat 0), (Int.ofNat 0), 0))])
/-- RoadHouse$Big.d -/
def sp81 : Nat × Nat × Sg := (0, 160, [(160, ((Int.ofNat 0), (Int.ofNat 0), 0))])
/-- RoadHouse$Ratio.q -/
def sp82 : Nat × Nat × Sg := (17, 0, [(1, ((Int.ofNat 206), (Int.ofNat 206), 83)), (2, ((Int.ofNat 0), (Int.ofNat 0), 0)), (3, ((Int.ofNat 0), (Int.ofNat 0), 0))])
/-- RoadHouse$Big.d -/
def sp83 : Nat × Nat × Sg := (0, 160, [(160, ((Int.ofNat 0), (Int.ofNat 0), 0))])
/-- RoadHouse$Ratio.s -/
def sp84 : Nat × Nat × Sg := (17, 0, [(1, ((Int.ofNat 208), (Int.ofNat 208), 85)), (2, ((Int.ofNat 0), (Int.ofNat 0), 0)), (3, ((Int.ofNat 0), (Int.ofNat 0), 0))])
/-- RoadHouse$Big.d -/
def sp85 : Nat × Nat × Sg := (0, 160, [(160, ((Int.ofNat 0), (Int.ofNat 0), 0))])
/-- RoadHouse$Beams.grid[] -/
def sp86 : Nat × Nat × Sg := (17, 0, [(1, ((Int.ofNat 210), (Int.ofNat 464), 87)), (2, ((Int.ofNat 0), (Int.ofNat 0), 0)), (3, ((Int.ofNat 0), (Int.ofNat 0), 0))])
/-- RoadHouse$Beams.grid[].d -/
def sp87 : Nat × Nat × Sg := (0, 12, [(12, ((Int.ofNat 0), (Int.ofNat 0), 0))])
/-- RoadHouse$Beams.point[] -/
def sp88 : Nat × Nat × Sg := (17, 0, [(1, ((Int.ofNat 466), (Int.ofNat 490), 89)), (2, ((Int.ofNat 0), (Int.ofNat 0), 0)), (3, ((Int.ofNat 0), (Int.ofNat 0), 0))])
/-- RoadHouse$Beams.point[].d -/
def sp89 : Nat × Nat × Sg := (0, 24, [(24, ((Int.ofNat 0), (Int.ofNat 0), 0))])
/-- RoadHouse$Beams.aid[] -/
def sp90 : Nat × Nat × Sg := (17, 0, [(1, ((Int.ofNat 492), (Int.ofNat 502), 91)), (2, ((Int.ofNat 0), (Int.ofNat 0), 0)), (3, ((Int.ofNat 0), (Int.ofNat 0), 0))])
/-- RoadHouse$Beams.aid[].d -/
def sp91 : Nat × Nat × Sg := (0, 160, [(160, ((Int.ofNat 0), (Int.ofNat 0), 0))])
/-- RoadHouse.trains -/
def sp92 : Nat × Nat × Sg := (25, 0, [(1, ((Int.ofNat 0), (Int.ofNat 0), 0)), (2, ((Int.ofNat 504), (Int.ofNat 504), 93)), (3, ((Int.ofNat 0), (Int.ofNat 0), 0)), (4, ((Int.ofNat 0), (Int.ofNat 0), 0)), (5, ((Int.ofNat 0), (Int.ofNat 0), 0)), (6, ((Int.ofNat 0), (Int.ofNat 0), 0)), (7, ((Int.ofNat 0), (Int.ofNat 0), 0)), (8, ((Int.ofNat 519), (Int.ofNat 519), 95)), (9, ((Int.ofNat 520), (Int.ofNat 520), 96)), (10, ((Int.ofNat 527), (Int.ofNat 527), 98)), (11, ((Int.ofNat 534), (Int.ofNat 534), 100)), (12, ((Int.ofNat 541), (Int.ofNat 541), 102)), (13, ((Int.ofNat 546), (Int.ofNat 546), 104)), (14, ((Int.ofNat 547), (Int.ofNat 547), 105)), (15, ((Int.ofNat 0), (Int.ofNat 0), 0)), (16, ((Int.ofNat 556), (Int.ofNat 556), 107)), (17, ((Int.ofNat 557), (Int.ofNat 557), 108)), (18, ((Int.ofNat 558), (Int.ofNat 558), 109)), (19, ((Int.ofNat 0), (Int.ofNat 0), 0)), (20, ((Int.ofNat 559), (Int.ofNat 559), 110)), (21, ((Int.ofNat 560), (Int.ofNat 560), 111)), (22, ((Int.ofNat 561), (Int.ofNat 561), 112))])
/-- RoadHouse$Trains.corner -/
def sp93 : Nat × Nat × Sg := (6, 14, [(14, ((Int.ofNat 505), (Int.ofNat 518), 94))])
/-- RoadHouse$Trains.corner[] -/
def sp94 : Nat × Nat × Sg := (0, 3, [(1, ((Int.ofNat 0), (Int.ofNat 0), 0)), (2, ((Int.ofNat 0), (Int.ofNat 0), 0)), (3, ((Int.ofNat 0), (Int.ofNat 0), 0))])
/-- RoadHouse$Trains.axles -/
def sp95 : Nat × Nat × Sg := (0, 6, [(6, ((Int.ofNat 0), (Int.ofNat 0), 0))])
/-- RoadHouse$Trains.behind -/
def sp96 : Nat × Nat × Sg := (6, 6, [(6, ((Int.ofNat 521), (Int.ofNat 526), 97))])
/-- RoadHouse$Trains.behind[] -/
def sp97 : Nat × Nat × Sg := (0, 5, [(1, ((Int.ofNat 0), (Int.ofNat 0), 0)), (2, ((Int.ofNat 0), (Int.ofNat 0), 0)), (3, ((Int.ofNat 0), (Int.ofNat 0), 0)), (4, ((Int.ofNat 0), (Int.ofNat 0), 0)), (5, ((Int.ofNat 0), (Int.ofNat 0), 0))])
/-- RoadHouse$Trains.load -/
def sp98 : Nat × Nat × Sg := (6, 6, [(6, ((Int.ofNat 528), (Int.ofNat 533), 99))])
/-- RoadHouse$Trains.load[] -/
def sp99 : Nat × Nat × Sg := (0, 5, [(1, ((Int.ofNat 0), (Int.ofNat 0), 0)), (2, ((Int.ofNat 0), (Int.ofNat 0), 0)), (3, ((Int.ofNat 0), (Int.ofNat 0), 0)), (4, ((Int.ofNat 0), (Int.ofNat 0), 0)), (5, ((Int.ofNat 0), (Int.ofNat 0), 0))])
/-- RoadHouse$Trains.gap -/
def sp100 : Nat × Nat × Sg := (6, 6, [(6, ((Int.ofNat 535), (Int.ofNat 540), 101))])
/-- RoadHouse$Trains.gap[] -/
def sp101 : Nat × Nat × Sg := (0, 2, [(1, ((Int.ofNat 0), (Int.ofNat 0), 0)), (2, ((Int.ofNat 0), (Int.ofNat 0), 0))])
/-- RoadHouse$Trains.lane -/
def sp102 : Nat × Nat × Sg := (6, 4, [(4, ((Int.ofNat 542), (Int.ofNat 545), 103))])
/-- RoadHouse$Trains.lane[] -/
def sp103 : Nat × Nat × Sg := (0, 2, [(1, ((Int.ofNat 0), (Int.ofNat 0), 0)), (2, ((Int.ofNat 0), (Int.ofNat 0), 0))])
/-- RoadHouse$Trains.text -/
def sp104 : Nat × Nat × Sg := (4, 100, [(100, ((Int.ofNat 0), (Int.ofNat 0), 0))])
/-- RoadHouse$Trains.counted -/
def sp105 : Nat × Nat × Sg := (6, 8, [(8, ((Int.ofNat 548), (Int.ofNat 555), 106))])
/-- RoadHouse$Trains.counted[] -/
def sp106 : Nat × Nat × Sg := (0, 3, [(1, ((Int.ofNat 0), (Int.ofNat 0), 0)), (2, ((Int.ofNat 0), (Int.ofNat 0), 0)), (3, ((Int.ofNat 0), (Int.ofNat 0), 0))])
/-- RoadHouse$Trains.place -/
def sp107 : Nat × Nat × Sg := (0, 7, [(7, ((Int.negSucc 0), (Int.negSucc 0), 0))])
/-- RoadHouse$Trains.list -/
def sp108 : Nat × Nat × Sg := (0, 72, [(72, ((Int.ofNat 0), (Int.ofNat 0), 0))])
/-- RoadHouse$Trains.firstList -/
def sp109 : Nat × Nat × Sg := (0, 70, [(70, ((Int.ofNat 0), (Int.ofNat 0), 0))])
/-- RoadHouse$Trains.number -/
def sp110 : Nat × Nat × Sg := (8, 8, [(8, ((Int.ofNat 574), (Int.ofNat 588), 125))])
/-- RoadHouse$Trains.share -/
def sp111 : Nat × Nat × Sg := (8, 14, [(14, ((Int.ofNat 590), (Int.ofNat 616), 127))])
/-- RoadHouse$Trains.told -/
def sp112 : Nat × Nat × Sg := (21, 0, [(1, ((Int.ofNat 562), (Int.ofNat 562), 113)), (2, ((Int.ofNat 564), (Int.ofNat 564), 115)), (3, ((Int.ofNat 566), (Int.ofNat 566), 117)), (4, ((Int.ofNat 568), (Int.ofNat 568), 119)), (5, ((Int.ofNat 570), (Int.ofNat 570), 121)), (6, ((Int.ofNat 572), (Int.ofNat 572), 123))])
/-- RoadHouse$Ratio.up -/
def sp113 : Nat × Nat × Sg := (17, 0, [(1, ((Int.ofNat 563), (Int.ofNat 563), 114)), (2, ((Int.ofNat 0), (Int.ofNat 0), 0)), (3, ((Int.ofNat 0), (Int.ofNat 0), 0))])
/-- RoadHouse$Big.d -/
def sp114 : Nat × Nat × Sg := (0, 64, [(64, ((Int.ofNat 0), (Int.ofNat 0), 0))])
/-- RoadHouse$Ratio.low -/
def sp115 : Nat × Nat × Sg := (17, 0, [(1, ((Int.ofNat 565), (Int.ofNat 565), 116)), (2, ((Int.ofNat 1), (Int.ofNat 1), 0)), (3, ((Int.ofNat 1), (Int.ofNat 1), 0))])
/-- RoadHouse$Big.d -/
def sp116 : Nat × Nat × Sg := (0, 64, [(64, ((Int.ofNat 0), (Int.ofNat 1), 0))])
/-- RoadHouse$Ratio.x -/
def sp117 : Nat × Nat × Sg := (17, 0, [(1, ((Int.ofNat 567), (Int.ofNat 567), 118)), (2, ((Int.ofNat 0), (Int.ofNat 0), 0)), (3, ((Int.ofNat 0), (Int.ofNat 0), 0))])
/-- RoadHouse$Big.d -/
def sp118 : Nat × Nat × Sg := (0, 64, [(64, ((Int.ofNat 0), (Int.ofNat 0), 0))])
/-- RoadHouse$Ratio.y -/
def sp119 : Nat × Nat × Sg := (17, 0, [(1, ((Int.ofNat 569), (Int.ofNat 569), 120)), (2, ((Int.ofNat 0), (Int.ofNat 0), 0)), (3, ((Int.ofNat 0), (Int.ofNat 0), 0))])
/-- RoadHouse$Big.d -/
def sp120 : Nat × Nat × Sg := (0, 64, [(64, ((Int.ofNat 0), (Int.ofNat 0), 0))])
/-- RoadHouse$Ratio.q -/
def sp121 : Nat × Nat × Sg := (17, 0, [(1, ((Int.ofNat 571), (Int.ofNat 571), 122)), (2, ((Int.ofNat 0), (Int.ofNat 0), 0)), (3, ((Int.ofNat 0), (Int.ofNat 0), 0))])
/-- RoadHouse$Big.d -/
def sp122 : Nat × Nat × Sg := (0, 64, [(64, ((Int.ofNat 0), (Int.ofNat 0), 0))])
/-- RoadHouse$Ratio.s -/
def sp123 : Nat × Nat × Sg := (17, 0, [(1, ((Int.ofNat 573), (Int.ofNat 573), 124)), (2, ((Int.ofNat 0), (Int.ofNat 0), 0)), (3, ((Int.ofNat 0), (Int.ofNat 0), 0))])
/-- RoadHouse$Big.d -/
def sp124 : Nat × Nat × Sg := (0, 64, [(64, ((Int.ofNat 0), (Int.ofNat 0), 0))])
/-- RoadHouse$Trains.number[] -/
def sp125 : Nat × Nat × Sg := (17, 0, [(1, ((Int.ofNat 575), (Int.ofNat 589), 126)), (2, ((Int.ofNat 0), (Int.ofNat 0), 0)), (3, ((Int.ofNat 0), (Int.ofNat 0), 0))])
/-- RoadHouse$Trains.number[].d -/
def sp126 : Nat × Nat × Sg := (0, 64, [(64, ((Int.ofNat 0), (Int.ofNat 0), 0))])
/-- RoadHouse$Trains.share[] -/
def sp127 : Nat × Nat × Sg := (17, 0, [(1, ((Int.ofNat 591), (Int.ofNat 617), 128)), (2, ((Int.ofNat 0), (Int.ofNat 0), 0)), (3, ((Int.ofNat 0), (Int.ofNat 0), 0))])
/-- RoadHouse$Trains.share[].d -/
def sp128 : Nat × Nat × Sg := (0, 16, [(16, ((Int.ofNat 0), (Int.ofNat 0), 0))])
/-- RoadHouse.stress -/
def sp129 : Nat × Nat × Sg := (24, 0, [(1, ((Int.ofNat 619), (Int.ofNat 619), 130)), (2, ((Int.ofNat 0), (Int.ofNat 0), 0)), (3, ((Int.ofNat 620), (Int.ofNat 620), 131)), (4, ((Int.ofNat 0), (Int.ofNat 0), 0)), (5, ((Int.ofNat 621), (Int.ofNat 621), 132)), (6, ((Int.ofNat 0), (Int.ofNat 0), 0)), (7, ((Int.ofNat 772), (Int.ofNat 772), 134)), (8, ((Int.ofNat 773), (Int.ofNat 773), 135)), (9, ((Int.ofNat 782), (Int.ofNat 782), 137)), (10, ((Int.ofNat 791), (Int.ofNat 791), 139)), (11, ((Int.ofNat 792), (Int.ofNat 792), 140)), (12, ((Int.ofNat 793), (Int.ofNat 793), 141)), (13, ((Int.ofNat 794), (Int.ofNat 794), 142)), (14, ((Int.ofNat 1), (Int.ofNat 1), 0)), (15, ((Int.ofNat 795), (Int.ofNat 795), 143)), (16, ((Int.ofNat 0), (Int.ofNat 0), 0)), (17, ((Int.ofNat 0), (Int.ofNat 18446744073709551615), 0)), (18, ((Int.ofNat 0), (Int.ofNat 0), 0)), (19, ((Int.ofNat 816), (Int.ofNat 816), 145)), (20, ((Int.ofNat 817), (Int.ofNat 817), 146)), (21, ((Int.ofNat 818), (Int.ofNat 818), 147)), (22, ((Int.ofNat 831), (Int.ofNat 831), 160))])
/-- RoadHouse$Stress.row -/
def sp130 : Nat × Nat × Sg := (0, 300, [(300, ((Int.ofNat 0), (Int.ofNat 0), 0))])
/-- RoadHouse$Stress.rest -/
def sp131 : Nat × Nat × Sg := (0, 300, [(300, ((Int.ofNat 0), (Int.ofNat 0), 0))])
/-- RoadHouse$Stress.turn -/
def sp132 : Nat × Nat × Sg := (6, 150, [(150, ((Int.ofNat 622), (Int.ofNat 771), 133))])
/-- RoadHouse$Stress.turn[] -/
def sp133 : Nat × Nat × Sg := (0, 3, [(1, ((Int.ofNat 0), (Int.ofNat 0), 0)), (2, ((Int.ofNat 0), (Int.ofNat 0), 0)), (3, ((Int.ofNat 0), (Int.ofNat 0), 0))])
/-- RoadHouse$Stress.anew -/
def sp134 : Nat × Nat × Sg := (0, 300, [(300, ((Int.ofNat 0), (Int.ofNat 0), 0))])
/-- RoadHouse$Stress.range -/
def sp135 : Nat × Nat × Sg := (6, 8, [(8, ((Int.ofNat 774), (Int.ofNat 781), 136))])
/-- RoadHouse$Stress.range[] -/
def sp136 : Nat × Nat × Sg := (0, 4, [(1, ((Int.ofNat 0), (Int.ofNat 0), 0)), (2, ((Int.ofNat 0), (Int.ofNat 0), 0)), (3, ((Int.ofNat 0), (Int.ofNat 0), 0)), (4, ((Int.ofNat 0), (Int.ofNat 0), 0))])
/-- RoadHouse$Stress.cycles -/
def sp137 : Nat × Nat × Sg := (6, 8, [(8, ((Int.ofNat 783), (Int.ofNat 790), 138))])
/-- RoadHouse$Stress.cycles[] -/
def sp138 : Nat × Nat × Sg := (0, 4, [(1, ((Int.ofNat 0), (Int.ofNat 0), 0)), (2, ((Int.ofNat 0), (Int.ofNat 0), 0)), (3, ((Int.ofNat 0), (Int.ofNat 0), 0)), (4, ((Int.ofNat 0), (Int.ofNat 0), 0))])
/-- RoadHouse$Stress.lines -/
def sp139 : Nat × Nat × Sg := (0, 8, [(8, ((Int.ofNat 0), (Int.ofNat 0), 0))])
/-- RoadHouse$Stress.cutOff -/
def sp140 : Nat × Nat × Sg := (0, 8, [(8, ((Int.ofNat 0), (Int.ofNat 0), 0))])
/-- RoadHouse$Stress.hot -/
def sp141 : Nat × Nat × Sg := (0, 2, [(2, ((Int.ofNat 1), (Int.ofNat 1), 0))])
/-- RoadHouse$Stress.cents -/
def sp142 : Nat × Nat × Sg := (0, 2, [(2, ((Int.ofNat 0), (Int.ofNat 0), 0))])
/-- RoadHouse$Stress.history -/
def sp143 : Nat × Nat × Sg := (6, 20, [(20, ((Int.ofNat 796), (Int.ofNat 815), 144))])
/-- RoadHouse$Stress.history[] -/
def sp144 : Nat × Nat × Sg := (0, 4, [(1, ((Int.ofNat 0), (Int.ofNat 0), 0)), (2, ((Int.ofNat 0), (Int.ofNat 0), 0)), (3, ((Int.ofNat 0), (Int.ofNat 0), 0)), (4, ((Int.ofNat 0), (Int.ofNat 0), 0))])
/-- RoadHouse$Stress.least -/
def sp145 : Nat × Nat × Sg := (1, 31, [(31, ((Int.ofNat 0), (Int.ofNat 0), 0))])
/-- RoadHouse$Stress.fewest -/
def sp146 : Nat × Nat × Sg := (0, 31, [(31, ((Int.ofNat 0), (Int.ofNat 0), 0))])
/-- RoadHouse$Stress.told -/
def sp147 : Nat × Nat × Sg := (21, 0, [(1, ((Int.ofNat 819), (Int.ofNat 819), 148)), (2, ((Int.ofNat 821), (Int.ofNat 821), 150)), (3, ((Int.ofNat 823), (Int.ofNat 823), 152)), (4, ((Int.ofNat 825), (Int.ofNat 825), 154)), (5, ((Int.ofNat 827), (Int.ofNat 827), 156)), (6, ((Int.ofNat 829), (Int.ofNat 829), 158))])
/-- RoadHouse$Ratio.up -/
def sp148 : Nat × Nat × Sg := (17, 0, [(1, ((Int.ofNat 820), (Int.ofNat 820), 149)), (2, ((Int.ofNat 0), (Int.ofNat 0), 0)), (3, ((Int.ofNat 0), (Int.ofNat 0), 0))])
/-- RoadHouse$Big.d -/
def sp149 : Nat × Nat × Sg := (0, 32, [(32, ((Int.ofNat 0), (Int.ofNat 0), 0))])
/-- RoadHouse$Ratio.low -/
def sp150 : Nat × Nat × Sg := (17, 0, [(1, ((Int.ofNat 822), (Int.ofNat 822), 151)), (2, ((Int.ofNat 1), (Int.ofNat 1), 0)), (3, ((Int.ofNat 1), (Int.ofNat 1), 0))])
/-- RoadHouse$Big.d -/
def sp151 : Nat × Nat × Sg := (0, 32, [(32, ((Int.ofNat 0), (Int.ofNat 1), 0))])
/-- RoadHouse$Ratio.x -/
def sp152 : Nat × Nat × Sg := (17, 0, [(1, ((Int.ofNat 824), (Int.ofNat 824), 153)), (2, ((Int.ofNat 0), (Int.ofNat 0), 0)), (3, ((Int.ofNat 0), (Int.ofNat 0), 0))])
/-- RoadHouse$Big.d -/
def sp153 : Nat × Nat × Sg := (0, 32, [(32, ((Int.ofNat 0), (Int.ofNat 0), 0))])
/-- RoadHouse$Ratio.y -/
def sp154 : Nat × Nat × Sg := (17, 0, [(1, ((Int.ofNat 826), (Int.ofNat 826), 155)), (2, ((Int.ofNat 0), (Int.ofNat 0), 0)), (3, ((Int.ofNat 0), (Int.ofNat 0), 0))])
/-- RoadHouse$Big.d -/
def sp155 : Nat × Nat × Sg := (0, 32, [(32, ((Int.ofNat 0), (Int.ofNat 0), 0))])
/-- RoadHouse$Ratio.q -/
def sp156 : Nat × Nat × Sg := (17, 0, [(1, ((Int.ofNat 828), (Int.ofNat 828), 157)), (2, ((Int.ofNat 0), (Int.ofNat 0), 0)), (3, ((Int.ofNat 0), (Int.ofNat 0), 0))])
/-- RoadHouse$Big.d -/
def sp157 : Nat × Nat × Sg := (0, 32, [(32, ((Int.ofNat 0), (Int.ofNat 0), 0))])
/-- RoadHouse$Ratio.s -/
def sp158 : Nat × Nat × Sg := (17, 0, [(1, ((Int.ofNat 830), (Int.ofNat 830), 159)), (2, ((Int.ofNat 0), (Int.ofNat 0), 0)), (3, ((Int.ofNat 0), (Int.ofNat 0), 0))])
/-- RoadHouse$Big.d -/
def sp159 : Nat × Nat × Sg := (0, 32, [(32, ((Int.ofNat 0), (Int.ofNat 0), 0))])
/-- RoadHouse$Stress.worn -/
def sp160 : Nat × Nat × Sg := (17, 0, [(1, ((Int.ofNat 832), (Int.ofNat 832), 161)), (2, ((Int.ofNat 0), (Int.ofNat 0), 0)), (3, ((Int.ofNat 0), (Int.ofNat 0), 0))])
/-- RoadHouse$Big.d -/
def sp161 : Nat × Nat × Sg := (0, 32, [(32, ((Int.ofNat 0), (Int.ofNat 0), 0))])
/-- RoadHouse.signals -/
def sp162 : Nat × Nat × Sg := (23, 0, [(1, ((Int.ofNat 1), (Int.ofNat 1), 0)), (2, ((Int.ofNat 834), (Int.ofNat 834), 163)), (3, ((Int.ofNat 835), (Int.ofNat 835), 164)), (4, ((Int.ofNat 842), (Int.ofNat 842), 166)), (5, ((Int.ofNat 843), (Int.ofNat 843), 167)), (6, ((Int.ofNat 0), (Int.ofNat 0), 0)), (7, ((Int.ofNat 844), (Int.ofNat 844), 168)), (8, ((Int.ofNat 845), (Int.ofNat 845), 169)), (9, ((Int.ofNat 850), (Int.ofNat 850), 171)), (10, ((Int.ofNat 0), (Int.ofNat 0), 0)), (11, ((Int.ofNat 851), (Int.ofNat 851), 172)), (12, ((Int.ofNat 0), (Int.ofNat 0), 0)), (13, ((Int.ofNat 912), (Int.ofNat 912), 174)), (14, ((Int.ofNat 913), (Int.ofNat 913), 175)), (15, ((Int.ofNat 0), (Int.ofNat 0), 0)), (16, ((Int.negSucc 0), (Int.negSucc 0), 0)), (17, ((Int.ofNat 0), (Int.ofNat 0), 0)), (18, ((Int.ofNat 914), (Int.ofNat 914), 176)), (19, ((Int.ofNat 915), (Int.ofNat 915), 177)), (20, ((Int.ofNat 1316), (Int.ofNat 1316), 179)), (21, ((Int.ofNat 1317), (Int.ofNat 1317), 180)), (22, ((Int.ofNat 1318), (Int.ofNat 1318), 181))])
/-- RoadHouse$Signals.clashes -/
def sp163 : Nat × Nat × Sg := (0, 6, [(6, ((Int.ofNat 0), (Int.ofNat 0), 0))])
/-- RoadHouse$Signals.clear -/
def sp164 : Nat × Nat × Sg := (6, 6, [(6, ((Int.ofNat 836), (Int.ofNat 841), 165))])
/-- RoadHouse$Signals.clear[] -/
def sp165 : Nat × Nat × Sg := (0, 6, [(1, ((Int.ofNat 0), (Int.ofNat 0), 0)), (2, ((Int.ofNat 0), (Int.ofNat 0), 0)), (3, ((Int.ofNat 0), (Int.ofNat 0), 0)), (4, ((Int.ofNat 0), (Int.ofNat 0), 0)), (5, ((Int.ofNat 0), (Int.ofNat 0), 0)), (6, ((Int.ofNat 0), (Int.ofNat 0), 0))])
/-- RoadHouse$Signals.least -/
def sp166 : Nat × Nat × Sg := (0, 6, [(6, ((Int.ofNat 1), (Int.ofNat 1), 0))])
/-- RoadHouse$Signals.most -/
def sp167 : Nat × Nat × Sg := (0, 6, [(6, ((Int.ofNat 31), (Int.ofNat 31), 0))])
/-- RoadHouse$Signals.phases -/
def sp168 : Nat × Nat × Sg := (0, 3, [(3, ((Int.ofNat 0), (Int.ofNat 0), 0))])
/-- RoadHouse$Signals.phase -/
def sp169 : Nat × Nat × Sg := (6, 4, [(4, ((Int.ofNat 846), (Int.ofNat 849), 170))])
/-- RoadHouse$Signals.phase[] -/
def sp170 : Nat × Nat × Sg := (0, 15, [(1, ((Int.ofNat 0), (Int.ofNat 0), 0)), (2, ((Int.ofNat 0), (Int.ofNat 0), 0)), (3, ((Int.ofNat 0), (Int.ofNat 0), 0)), (4, ((Int.ofNat 0), (Int.ofNat 0), 0)), (5, ((Int.ofNat 0), (Int.ofNat 0), 0)), (6, ((Int.ofNat 0), (Int.ofNat 0), 0)), (7, ((Int.ofNat 0), (Int.ofNat 0), 0)), (8, ((Int.ofNat 0), (Int.ofNat 0), 0)), (9, ((Int.ofNat 0), (Int.ofNat 0), 0)), (10, ((Int.ofNat 0), (Int.ofNat 0), 0)), (11, ((Int.ofNat 0), (Int.ofNat 0), 0)), (12, ((Int.ofNat 0), (Int.ofNat 0), 0)), (13, ((Int.ofNat 0), (Int.ofNat 0), 0)), (14, ((Int.ofNat 0), (Int.ofNat 0), 0)), (15, ((Int.ofNat 0), (Int.ofNat 0), 0))])
/-- RoadHouse$Signals.text -/
def sp171 : Nat × Nat × Sg := (4, 60, [(60, ((Int.ofNat 0), (Int.ofNat 0), 0))])
/-- RoadHouse$Signals.told -/
def sp172 : Nat × Nat × Sg := (6, 60, [(60, ((Int.ofNat 852), (Int.ofNat 911), 173))])
/-- RoadHouse$Signals.told[] -/
def sp173 : Nat × Nat × Sg := (0, 2, [(1, ((Int.ofNat 0), (Int.ofNat 0), 0)), (2, ((Int.ofNat 0), (Int.ofNat 0), 0))])
/-- RoadHouse$Signals.machine -/
def sp174 : Nat × Nat × Sg := (0, 14, [(14, ((Int.ofNat 0), (Int.ofNat 15), 0))])
/-- RoadHouse$Signals.probe -/
def sp175 : Nat × Nat × Sg := (0, 14, [(14, ((Int.ofNat 0), (Int.ofNat 0), 0))])
/-- RoadHouse$Signals.state -/
def sp176 : Nat × Nat × Sg := (1, 401, [(401, ((Int.ofNat 0), (Int.ofNat 0), 0))])
/-- RoadHouse$Signals.found -/
def sp177 : Nat × Nat × Sg := (6, 400, [(400, ((Int.ofNat 916), (Int.ofNat 1315), 178))])
/-- RoadHouse$Signals.found[] -/
def sp178 : Nat × Nat × Sg := (0, 12, [(1, ((Int.ofNat 0), (Int.ofNat 0), 0)), (2, ((Int.ofNat 0), (Int.ofNat 0), 0)), (3, ((Int.ofNat 0), (Int.ofNat 0), 0)), (4, ((Int.ofNat 0), (Int.ofNat 0), 0)), (5, ((Int.ofNat 0), (Int.ofNat 0), 0)), (6, ((Int.ofNat 0), (Int.ofNat 0), 0)), (7, ((Int.ofNat 0), (Int.ofNat 0), 0)), (8, ((Int.ofNat 0), (Int.ofNat 0), 0)), (9, ((Int.ofNat 0), (Int.ofNat 0), 0)), (10, ((Int.ofNat 0), (Int.ofNat 0), 0)), (11, ((Int.ofNat 0), (Int.ofNat 0), 0)), (12, ((Int.ofNat 0), (Int.ofNat 0), 0))])
/-- RoadHouse$Signals.slot -/
def sp179 : Nat × Nat × Sg := (0, 1024, [(1024, ((Int.ofNat 0), (Int.ofNat 0), 0))])
/-- RoadHouse$Signals.way -/
def sp180 : Nat × Nat × Sg := (0, 400, [(400, ((Int.ofNat 0), (Int.ofNat 0), 0))])
/-- RoadHouse$Signals.last -/
def sp181 : Nat × Nat × Sg := (0, 3, [(3, ((Int.ofNat 0), (Int.ofNat 0), 0))])
/-- RoadHouse.cars -/
def sp182 : Nat × Nat × Sg := (18, 0, [(1, ((Int.ofNat 1320), (Int.ofNat 1320), 183)), (2, ((Int.ofNat 1345), (Int.ofNat 1345), 185)), (3, ((Int.ofNat 0), (Int.ofNat 0), 0)), (4, ((Int.ofNat 1442), (Int.ofNat 1442), 187)), (5, ((Int.ofNat 1467), (Int.ofNat 1467), 189)), (6, ((Int.ofNat 1492), (Int.ofNat 1492), 191)), (7, ((Int.ofNat 0), (Int.ofNat 0), 0)), (8, ((Int.ofNat 1693), (Int.ofNat 1693), 193)), (9, ((Int.ofNat 0), (Int.ofNat 0), 0)), (10, ((Int.ofNat 1894), (Int.ofNat 1894), 195)), (11, ((Int.ofNat 0), (Int.ofNat 0), 0)), (12, ((Int.ofNat 1955), (Int.ofNat 1955), 197)), (13, ((Int.ofNat 0), (Int.ofNat 0), 0)), (14, ((Int.ofNat 1968), (Int.ofNat 1968), 199)), (15, ((Int.ofNat 1969), (Int.ofNat 1969), 200)), (16, ((Int.ofNat 0), (Int.ofNat 0), 0)), (17, ((Int.ofNat 1974), (Int.ofNat 1974), 202)), (18, ((Int.ofNat 1975), (Int.ofNat 1975), 203)), (19, ((Int.ofNat 1976), (Int.ofNat 1976), 204)), (20, ((Int.ofNat 1977), (Int.ofNat 1977), 205)), (21, ((Int.ofNat 1978), (Int.ofNat 1978), 206)), (22, ((Int.ofNat 1981), (Int.ofNat 1981), 208))])
/-- RoadHouse$Cars.cell -/
def sp183 : Nat × Nat × Sg := (6, 24, [(24, ((Int.ofNat 1321), (Int.ofNat 1344), 184))])
/-- RoadHouse$Cars.cell[] -/
def sp184 : Nat × Nat × Sg := (0, 7, [(1, ((Int.ofNat 0), (Int.ofNat 0), 0)), (2, ((Int.ofNat 0), (Int.ofNat 0), 0)), (3, ((Int.ofNat 0), (Int.ofNat 0), 0)), (4, ((Int.ofNat 0), (Int.ofNat 0), 0)), (5, ((Int.ofNat 0), (Int.ofNat 0), 0)), (6, ((Int.ofNat 0), (Int.ofNat 0), 0)), (7, ((Int.ofNat 0), (Int.ofNat 0), 0))])
/-- RoadHouse$Cars.join -/
def sp185 : Nat × Nat × Sg := (6, 96, [(96, ((Int.ofNat 1346), (Int.ofNat 1441), 186))])
/-- RoadHouse$Cars.join[] -/
def sp186 : Nat × Nat × Sg := (0, 5, [(1, ((Int.ofNat 0), (Int.ofNat 0), 0)), (2, ((Int.ofNat 0), (Int.ofNat 0), 0)), (3, ((Int.ofNat 0), (Int.ofNat 0), 0)), (4, ((Int.ofNat 0), (Int.ofNat 0), 0)), (5, ((Int.ofNat 0), (Int.ofNat 0), 0))])
/-- RoadHouse$Cars.joinsFrom -/
def sp187 : Nat × Nat × Sg := (6, 24, [(24, ((Int.ofNat 1443), (Int.ofNat 1466), 188))])
/-- RoadHouse$Cars.joinsFrom[] -/
def sp188 : Nat × Nat × Sg := (0, 4, [(1, ((Int.ofNat 0), (Int.ofNat 0), 0)), (2, ((Int.ofNat 0), (Int.ofNat 0), 0)), (3, ((Int.ofNat 0), (Int.ofNat 0), 0)), (4, ((Int.ofNat 0), (Int.ofNat 0), 0))])
/-- RoadHouse$Cars.joinsTo -/
def sp189 : Nat × Nat × Sg := (6, 24, [(24, ((Int.ofNat 1468), (Int.ofNat 1491), 190))])
/-- RoadHouse$Cars.joinsTo[] -/
def sp190 : Nat × Nat × Sg := (0, 4, [(1, ((Int.ofNat 0), (Int.ofNat 0), 0)), (2, ((Int.ofNat 0), (Int.ofNat 0), 0)), (3, ((Int.ofNat 0), (Int.ofNat 0), 0)), (4, ((Int.ofNat 0), (Int.ofNat 0), 0))])
/-- RoadHouse$Cars.setting -/
def sp191 : Nat × Nat × Sg := (6, 200, [(200, ((Int.ofNat 1493), (Int.ofNat 1692), 192))])
/-- RoadHouse$Cars.setting[] -/
def sp192 : Nat × Nat × Sg := (0, 5, [(1, ((Int.ofNat 0), (Int.ofNat 0), 0)), (2, ((Int.ofNat 0), (Int.ofNat 0), 0)), (3, ((Int.ofNat 0), (Int.ofNat 0), 0)), (4, ((Int.ofNat 0), (Int.ofNat 0), 0)), (5, ((Int.ofNat 0), (Int.ofNat 0), 0))])
/-- RoadHouse$Cars.coming -/
def sp193 : Nat × Nat × Sg := (6, 200, [(200, ((Int.ofNat 1694), (Int.ofNat 1893), 194))])
/-- RoadHouse$Cars.coming[] -/
def sp194 : Nat × Nat × Sg := (0, 3, [(1, ((Int.ofNat 0), (Int.ofNat 0), 0)), (2, ((Int.ofNat 0), (Int.ofNat 0), 0)), (3, ((Int.ofNat 0), (Int.ofNat 0), 0))])
/-- RoadHouse$Cars.read -/
def sp195 : Nat × Nat × Sg := (6, 60, [(60, ((Int.ofNat 1895), (Int.ofNat 1954), 196))])
/-- RoadHouse$Cars.read[] -/
def sp196 : Nat × Nat × Sg := (0, 3, [(1, ((Int.ofNat 0), (Int.ofNat 0), 0)), (2, ((Int.ofNat 0), (Int.ofNat 0), 0)), (3, ((Int.ofNat 0), (Int.ofNat 0), 0))])
/-- RoadHouse$Cars.rule -/
def sp197 : Nat × Nat × Sg := (6, 12, [(12, ((Int.ofNat 1956), (Int.ofNat 1967), 198))])
/-- RoadHouse$Cars.rule[] -/
def sp198 : Nat × Nat × Sg := (0, 3, [(1, ((Int.ofNat 0), (Int.ofNat 0), 0)), (2, ((Int.ofNat 0), (Int.ofNat 0), 0)), (3, ((Int.ofNat 0), (Int.ofNat 0), 0))])
/-- RoadHouse$Cars.now -/
def sp199 : Nat × Nat × Sg := (1, 10216, [(10216, ((Int.ofNat 0), (Int.ofNat 0), 0))])
/-- RoadHouse$Cars.saved -/
def sp200 : Nat × Nat × Sg := (7, 4, [(4, ((Int.ofNat 1970), (Int.ofNat 1973), 201))])
/-- RoadHouse$Cars.saved[] -/
def sp201 : Nat × Nat × Sg := (1, 1, [(1, ((Int.ofNat 0), (Int.ofNat 0), 0))])
/-- RoadHouse$Cars.cap -/
def sp202 : Nat × Nat × Sg := (1, 24, [(24, ((Int.ofNat 0), (Int.ofNat 0), 0))])
/-- RoadHouse$Cars.can -/
def sp203 : Nat × Nat × Sg := (1, 24, [(24, ((Int.ofNat 0), (Int.ofNat 0), 0))])
/-- RoadHouse$Cars.sent -/
def sp204 : Nat × Nat × Sg := (1, 24, [(24, ((Int.ofNat 0), (Int.ofNat 0), 0))])
/-- RoadHouse$Cars.takes -/
def sp205 : Nat × Nat × Sg := (1, 24, [(24, ((Int.ofNat 0), (Int.ofNat 0), 0))])
/-- RoadHouse$Cars.valid -/
def sp206 : Nat × Nat × Sg := (6, 2, [(2, ((Int.ofNat 1979), (Int.ofNat 1980), 207))])
/-- RoadHouse$Cars.valid[] -/
def sp207 : Nat × Nat × Sg := (0, 24, [(24, ((Int.ofNat 0), (Int.ofNat 0), 0))])
/-- RoadHouse$Cars.wanted -/
def sp208 : Nat × Nat × Sg := (1, 96, [(96, ((Int.ofNat 0), (Int.ofNat 0), 0))])
/-- RoadHouse.contract -/
def sp209 : Nat × Nat × Sg := (19, 0, [(1, ((Int.ofNat 1983), (Int.ofNat 1983), 210)), (2, ((Int.ofNat 0), (Int.ofNat 0), 0)), (3, ((Int.ofNat 1984), (Int.ofNat 1984), 211)), (4, ((Int.ofNat 0), (Int.ofNat 0), 0)), (5, ((Int.ofNat 2185), (Int.ofNat 2185), 213)), (6, ((Int.ofNat 0), (Int.ofNat 0), 0)), (7, ((Int.ofNat 2194), (Int.ofNat 2194), 215)), (8, ((Int.ofNat 0), (Int.ofNat 0), 0)), (9, ((Int.ofNat 2235), (Int.ofNat 2235), 217)), (10, ((Int.ofNat 2296), (Int.ofNat 2296), 219)), (11, ((Int.ofNat 0), (Int.ofNat 0), 0)), (12, ((Int.ofNat 2297), (Int.ofNat 2297), 220)), (13, ((Int.ofNat 0), (Int.ofNat 0), 0)), (14, ((Int.ofNat 2318), (Int.ofNat 2318), 222)), (15, ((Int.negSucc 0), (Int.negSucc 0), 0)), (16, ((Int.ofNat 2332), (Int.ofNat 2332), 224)), (17, ((Int.ofNat 0), (Int.ofNat 0), 0)), (18, ((Int.ofNat 2343), (Int.ofNat 2343), 226)), (19, ((Int.ofNat 2344), (Int.ofNat 2344), 227)), (20, ((Int.ofNat 0), (Int.ofNat 0), 0)), (21, ((Int.ofNat 0), (Int.ofNat 0), 0)), (22, ((Int.ofNat 2445), (Int.ofNat 2445), 229)), (23, ((Int.ofNat 2446), (Int.ofNat 2446), 230))])
/-- RoadHouse$Contract.text -/
def sp210 : Nat × Nat × Sg := (4, 200, [(200, ((Int.ofNat 0), (Int.ofNat 0), 0))])
/-- RoadHouse$Contract.word -/
def sp211 : Nat × Nat × Sg := (6, 200, [(200, ((Int.ofNat 1985), (Int.ofNat 2184), 212))])
/-- RoadHouse$Contract.word[] -/
def sp212 : Nat × Nat × Sg := (0, 3, [(1, ((Int.ofNat 0), (Int.ofNat 0), 0)), (2, ((Int.ofNat 0), (Int.ofNat 0), 0)), (3, ((Int.ofNat 0), (Int.ofNat 0), 0))])
/-- RoadHouse$Contract.item -/
def sp213 : Nat × Nat × Sg := (6, 8, [(8, ((Int.ofNat 2186), (Int.ofNat 2193), 214))])
/-- RoadHouse$Contract.item[] -/
def sp214 : Nat × Nat × Sg := (0, 42, [(42, ((Int.ofNat 0), (Int.ofNat 0), 0))])
/-- RoadHouse$Contract.shape -/
def sp215 : Nat × Nat × Sg := (6, 40, [(40, ((Int.ofNat 2195), (Int.ofNat 2234), 216))])
/-- RoadHouse$Contract.shape[] -/
def sp216 : Nat × Nat × Sg := (0, 4, [(1, ((Int.ofNat 0), (Int.ofNat 0), 0)), (2, ((Int.ofNat 0), (Int.ofNat 0), 0)), (3, ((Int.ofNat 0), (Int.ofNat 0), 0)), (4, ((Int.ofNat 0), (Int.ofNat 0), 0))])
/-- RoadHouse$Contract.entry -/
def sp217 : Nat × Nat × Sg := (6, 60, [(60, ((Int.ofNat 2236), (Int.ofNat 2295), 218))])
/-- RoadHouse$Contract.entry[] -/
def sp218 : Nat × Nat × Sg := (0, 6, [(1, ((Int.ofNat 0), (Int.ofNat 0), 0)), (2, ((Int.ofNat 0), (Int.ofNat 0), 0)), (3, ((Int.ofNat 0), (Int.ofNat 0), 0)), (4, ((Int.ofNat 0), (Int.ofNat 0), 0)), (5, ((Int.ofNat 0), (Int.ofNat 0), 0)), (6, ((Int.ofNat 0), (Int.ofNat 0), 0))])
/-- RoadHouse$Contract.measured -/
def sp219 : Nat × Nat × Sg := (1, 60, [(60, ((Int.ofNat 0), (Int.ofNat 0), 0))])
/-- RoadHouse$Contract.change -/
def sp220 : Nat × Nat × Sg := (6, 20, [(20, ((Int.ofNat 2298), (Int.ofNat 2317), 221))])
/-- RoadHouse$Contract.change[] -/
def sp221 : Nat × Nat × Sg := (0, 4, [(1, ((Int.ofNat 0), (Int.ofNat 0), 0)), (2, ((Int.ofNat 0), (Int.ofNat 0), 0)), (3, ((Int.ofNat 0), (Int.ofNat 0), 0)), (4, ((Int.ofNat 0), (Int.ofNat 0), 0))])
/-- RoadHouse$Contract.index -/
def sp222 : Nat × Nat × Sg := (6, 13, [(13, ((Int.ofNat 2319), (Int.ofNat 2331), 223))])
/-- RoadHouse$Contract.index[] -/
def sp223 : Nat × Nat × Sg := (0, 2, [(1, ((Int.ofNat 0), (Int.ofNat 1), 0)), (2, ((Int.ofNat 1), (Int.ofNat 1), 0))])
/-- RoadHouse$Contract.penalty -/
def sp224 : Nat × Nat × Sg := (6, 10, [(10, ((Int.ofNat 2333), (Int.ofNat 2342), 225))])
/-- RoadHouse$Contract.penalty[] -/
def sp225 : Nat × Nat × Sg := (0, 3, [(1, ((Int.ofNat 0), (Int.ofNat 0), 0)), (2, ((Int.ofNat 0), (Int.ofNat 0), 0)), (3, ((Int.ofNat 0), (Int.ofNat 0), 0))])
/-- RoadHouse$Contract.weight -/
def sp226 : Nat × Nat × Sg := (0, 4, [(4, ((Int.ofNat 0), (Int.ofNat 0), 0))])
/-- RoadHouse$Contract.open -/
def sp227 : Nat × Nat × Sg := (6, 100, [(100, ((Int.ofNat 2345), (Int.ofNat 2444), 228))])
/-- RoadHouse$Contract.open[] -/
def sp228 : Nat × Nat × Sg := (0, 3, [(1, ((Int.ofNat 0), (Int.ofNat 0), 0)), (2, ((Int.ofNat 0), (Int.ofNat 0), 0)), (3, ((Int.ofNat 0), (Int.ofNat 0), 0))])
/-- RoadHouse$Contract.stack -/
def sp229 : Nat × Nat × Sg := (1, 41, [(41, ((Int.ofNat 0), (Int.ofNat 0), 0))])
/-- RoadHouse$Contract.written -/
def sp230 : Nat × Nat × Sg := (4, 408, [(408, ((Int.ofNat 0), (Int.ofNat 0), 0))])
/-- RoadHouse.cellGreen -/
def sp231 : Nat × Nat × Sg := (2, 6, [(6, ((Int.ofNat 1), (Int.ofNat 1), 0))])
/-- cell2448 -/
def sp232 : Nat × Nat × Sg := (36, 0, [(1, ((Int.ofNat 0), (Int.ofNat 0), 0)), (2, ((Int.ofNat 2449), (Int.ofNat 2449), 233)), (3, ((Int.ofNat 2468), (Int.ofNat 2468), 252)), (4, ((Int.ofNat 2495), (Int.ofNat 2495), 279)), (5, ((Int.ofNat 2514), (Int.ofNat 2514), 298)), (6, ((Int.ofNat 2534), (Int.ofNat 2534), 318)), (7, ((Int.ofNat 2551), (Int.ofNat 2551), 333)), (8, ((Int.ofNat 2570), (Int.ofNat 2570), 352)), (9, ((Int.ofNat 2595), (Int.ofNat 2595), 377)), (10, ((Int.ofNat 2619), (Int.ofNat 2619), 401)), (11, ((Int.ofNat 2620), (Int.ofNat 2620), 402)), (12, ((Int.ofNat 2621), (Int.ofNat 2621), 403)), (13, ((Int.ofNat 2622), (Int.ofNat 2622), 404)), (14, ((Int.ofNat 0), (Int.ofNat 0), 0)), (15, ((Int.ofNat 2623), (Int.ofNat 2623), 405)), (16, ((Int.ofNat 2624), (Int.ofNat 2624), 406)), (17, ((Int.ofNat 2625), (Int.ofNat 2625), 407)), (18, ((Int.ofNat 2626), (Int.ofNat 2626), 408)), (19, ((Int.ofNat 0), (Int.ofNat 0), 0))])
/-- RoadHouseModel.way -/
def sp233 : Nat × Nat × Sg := (28, 0, [(1, ((Int.ofNat 12), (Int.ofNat 12), 0)), (2, ((Int.ofNat 12), (Int.ofNat 12), 0)), (3, ((Int.ofNat 2450), (Int.ofNat 2450), 234)), (4, ((Int.ofNat 2451), (Int.ofNat 2451), 235)), (5, ((Int.ofNat 2452), (Int.ofNat 2452), 236)), (6, ((Int.ofNat 2453), (Int.ofNat 2453), 237)), (7, ((Int.ofNat 2454), (Int.ofNat 2454), 238)), (8, ((Int.ofNat 2455), (Int.ofNat 2455), 239)), (9, ((Int.ofNat 2456), (Int.ofNat 2456), 240)), (10, ((Int.ofNat 2457), (Int.ofNat 2457), 241)), (11, ((Int.ofNat 2458), (Int.ofNat 2458), 242)), (12, ((Int.ofNat 2459), (Int.ofNat 2459), 243)), (13, ((Int.ofNat 1), (Int.ofNat 1), 0)), (14, ((Int.ofNat 9999), (Int.ofNat 9999), 0)), (15, ((Int.ofNat 8), (Int.ofNat 8), 0)), (16, ((Int.ofNat 2460), (Int.ofNat 2460), 244)), (17, ((Int.ofNat 2461), (Int.ofNat 2461), 245)), (18, ((Int.ofNat 2462), (Int.ofNat 2462), 246)), (19, ((Int.ofNat 2463), (Int.ofNat 2463), 247)), (20, ((Int.ofNat 2464), (Int.ofNat 2464), 248)), (21, ((Int.ofNat 0), (Int.ofNat 0), 0)), (22, ((Int.ofNat 0), (Int.ofNat 0), 0)), (23, ((Int.ofNat 0), (Int.ofNat 0), 0)), (24, ((Int.ofNat 0), (Int.ofNat 0), 0)), (25, ((Int.ofNat 2465), (Int.ofNat 2465), 249)), (26, ((Int.ofNat 2466), (Int.ofNat 2466), 250)), (27, ((Int.ofNat 2467), (Int.ofNat 2467), 251)), (28, ((Int.ofNat 0), (Int.ofNat 0), 0)), (29, ((Int.ofNat 0), (Int.ofNat 0), 0)), (30, ((Int.negSucc 0), (Int.negSucc 0), 0)), (31, ((Int.ofNat 0), (Int.ofNat 0), 0)), (32, ((Int.ofNat 0), (Int.ofNat 0), 0))])
/-- RoadHouseModel$CorridorCellsModel.costs -/
def sp234 : Nat × Nat × Sg := (0, 144, [(144, ((Int.ofNat 0), (Int.ofNat 0), 0))])
/-- RoadHouseModel$CorridorCellsModel.levels -/
def sp235 : Nat × Nat × Sg := (0, 144, [(144, ((Int.ofNat 0), (Int.ofNat 0), 0))])
/-- RoadHouseModel$CorridorCellsModel.zones -/
def sp236 : Nat × Nat × Sg := (0, 144, [(144, ((Int.ofNat 0), (Int.ofNat 0), 0))])
/-- RoadHouseModel$CorridorCellsModel.mosts -/
def sp237 : Nat × Nat × Sg := (0, 144, [(144, ((Int.ofNat 0), (Int.ofNat 0), 0))])
/-- RoadHouseModel$CorridorCellsModel.cents -/
def sp238 : Nat × Nat × Sg := (0, 144, [(144, ((Int.ofNat 0), (Int.ofNat 0), 0))])
/-- RoadHouseModel$CorridorCellsModel.barred -/
def sp239 : Nat × Nat × Sg := (2, 144, [(144, ((Int.ofNat 0), (Int.ofNat 0), 0))])
/-- RoadHouseModel$CorridorCellsModel.values -/
def sp240 : Nat × Nat × Sg := (0, 576, [(576, ((Int.ofNat 0), (Int.ofNat 0), 0))])
/-- RoadHouseModel$CorridorCellsModel.marks -/
def sp241 : Nat × Nat × Sg := (0, 1152, [(1152, ((Int.ofNat 0), (Int.ofNat 0), 0))])
/-- RoadHouseModel$CorridorCellsModel.aboves -/
def sp242 : Nat × Nat × Sg := (0, 4, [(4, ((Int.ofNat 0), (Int.ofNat 0), 0))])
/-- RoadHouseModel$CorridorCellsModel.belows -/
def sp243 : Nat × Nat × Sg := (0, 4, [(4, ((Int.ofNat 1), (Int.ofNat 1), 0))])
/-- RoadHouseModel$CorridorCellsModel.best -/
def sp244 : Nat × Nat × Sg := (1, 88128, [(88128, ((Int.ofNat 0), (Int.ofNat 0), 0))])
/-- RoadHouseModel$CorridorCellsModel.bestTurns -/
def sp245 : Nat × Nat × Sg := (0, 88128, [(88128, ((Int.ofNat 0), (Int.ofNat 0), 0))])
/-- RoadHouseModel$CorridorCellsModel.bestMoves -/
def sp246 : Nat × Nat × Sg := (0, 88128, [(88128, ((Int.ofNat 0), (Int.ofNat 0), 0))])
/-- RoadHouseModel$CorridorCellsModel.known -/
def sp247 : Nat × Nat × Sg := (2, 88128, [(88128, ((Int.ofNat 0), (Int.ofNat 0), 0))])
/-- RoadHouseModel$CorridorCellsModel.shared -/
def sp248 : Nat × Nat × Sg := (2, 144, [(144, ((Int.ofNat 0), (Int.ofNat 0), 0))])
/-- RoadHouseModel$CorridorCellsModel.firsts -/
def sp249 : Nat × Nat × Sg := (0, 6, [(6, ((Int.ofNat 0), (Int.ofNat 0), 0))])
/-- RoadHouseModel$CorridorCellsModel.moves -/
def sp250 : Nat × Nat × Sg := (0, 6, [(6, ((Int.ofNat 0), (Int.ofNat 0), 0))])
/-- RoadHouseModel$CorridorCellsModel.headings -/
def sp251 : Nat × Nat × Sg := (3, 30000, [(30000, ((Int.ofNat 0), (Int.ofNat 0), 0))])
/-- RoadHouseModel.earth -/
def sp252 : Nat × Nat × Sg := (29, 0, [(1, ((Int.ofNat 0), (Int.ofNat 1), 0)), (2, ((Int.ofNat 0), (Int.ofNat 8), 0)), (3, ((Int.ofNat 2469), (Int.ofNat 2469), 253)), (4, ((Int.ofNat 2470), (Int.ofNat 2470), 254)), (5, ((Int.ofNat 2471), (Int.ofNat 2471), 255)), (6, ((Int.ofNat 2472), (Int.ofNat 2472), 256)), (7, ((Int.ofNat 0), (Int.ofNat 4), 0)), (8, ((Int.ofNat 2473), (Int.ofNat 2473), 257)), (9, ((Int.ofNat 2474), (Int.ofNat 2474), 258)), (10, ((Int.ofNat 0), (Int.ofNat 8), 0)), (11, ((Int.ofNat 2475), (Int.ofNat 2475), 259)), (12, ((Int.ofNat 2476), (Int.ofNat 2476), 260)), (13, ((Int.ofNat 2477), (Int.ofNat 2477), 261)), (14, ((Int.ofNat 0), (Int.ofNat 6), 0)), (15, ((Int.ofNat 2478), (Int.ofNat 2478), 262)), (16, ((Int.ofNat 2479), (Int.ofNat 2479), 263)), (17, ((Int.ofNat 2480), (Int.ofNat 2480), 264)), (18, ((Int.ofNat 2481), (Int.ofNat 2481), 265)), (19, ((Int.ofNat 2482), (Int.ofNat 2482), 266)), (20, ((Int.ofNat 2483), (Int.ofNat 2483), 267)), (21, ((Int.ofNat 2484), (Int.ofNat 2484), 268)), (22, ((Int.ofNat 2485), (Int.ofNat 2485), 269)), (23, ((Int.ofNat 0), (Int.ofNat 0), 0)), (24, ((Int.ofNat 2486), (Int.ofNat 2486), 270)), (25, ((Int.ofNat 2487), (Int.ofNat 2487), 271)), (26, ((Int.ofNat 2488), (Int.ofNat 2488), 272)), (27, ((Int.ofNat 2489), (Int.ofNat 2489), 273)), (28, ((Int.ofNat 2490), (Int.ofNat 2490), 274)), (29, ((Int.ofNat 2491), (Int.ofNat 2491), 275)), (30, ((Int.ofNat 2492), (Int.ofNat 2492), 276)), (31, ((Int.ofNat 2493), (Int.ofNat 2493), 277)), (32, ((Int.ofNat 0), (Int.ofNat 0), 0)), (33, ((Int.ofNat 0), (Int.ofNat 0), 0)), (34, ((Int.ofNat 0), (Int.ofNat 1), 0)), (35, ((Int.ofNat 0), (Int.ofNat 1), 0)), (36, ((Int.ofNat 0), (Int.ofNat 0), 0)), (37, ((Int.ofNat 0), (Int.ofNat 0), 0)), (38, ((Int.ofNat 2494), (Int.ofNat 2494), 278))])
/-- RoadHouseModel$HaulFlowsModel.cutVolume -/
def sp253 : Nat × Nat × Sg := (0, 8, [(8, ((Int.ofNat 0), (Int.ofNat 1000000), 0))])
/-- RoadHouseModel$HaulFlowsModel.cutKind -/
def sp254 : Nat × Nat × Sg := (0, 8, [(8, ((Int.ofNat 0), (Int.ofNat 3), 0))])
/-- RoadHouseModel$HaulFlowsModel.cutWeek -/
def sp255 : Nat × Nat × Sg := (0, 8, [(8, ((Int.ofNat 0), (Int.ofNat 11), 0))])
/-- RoadHouseModel$HaulFlowsModel.cutMetre -/
def sp256 : Nat × Nat × Sg := (0, 8, [(8, ((Int.ofNat 0), (Int.ofNat 100000), 0))])
/-- RoadHouseModel$HaulFlowsModel.pitMetre -/
def sp257 : Nat × Nat × Sg := (0, 4, [(4, ((Int.ofNat 0), (Int.ofNat 100000), 0))])
/-- RoadHouseModel$HaulFlowsModel.pitCents -/
def sp258 : Nat × Nat × Sg := (0, 4, [(4, ((Int.ofNat 0), (Int.ofNat 100000), 0))])
/-- RoadHouseModel$HaulFlowsModel.fillVolume -/
def sp259 : Nat × Nat × Sg := (0, 8, [(8, ((Int.ofNat 0), (Int.ofNat 1000000), 0))])
/-- RoadHouseModel$HaulFlowsModel.fillWeek -/
def sp260 : Nat × Nat × Sg := (0, 8, [(8, ((Int.ofNat 0), (Int.ofNat 11), 0))])
/-- RoadHouseModel$HaulFlowsModel.fillMetre -/
def sp261 : Nat × Nat × Sg := (0, 8, [(8, ((Int.ofNat 0), (Int.ofNat 100000), 0))])
/-- RoadHouseModel$HaulFlowsModel.wayFrom -/
def sp262 : Nat × Nat × Sg := (0, 6, [(6, ((Int.ofNat 0), (Int.ofNat 100000), 0))])
/-- RoadHouseModel$HaulFlowsModel.wayTo -/
def sp263 : Nat × Nat × Sg := (0, 6, [(6, ((Int.ofNat 0), (Int.ofNat 100000), 0))])
/-- RoadHouseModel$HaulFlowsModel.wayCents -/
def sp264 : Nat × Nat × Sg := (0, 6, [(6, ((Int.ofNat 0), (Int.ofNat 100000), 0))])
/-- RoadHouseModel$HaulFlowsModel.barred -/
def sp265 : Nat × Nat × Sg := (2, 72, [(72, ((Int.ofNat 0), (Int.ofNat 1), 0))])
/-- RoadHouseModel$HaulFlowsModel.above -/
def sp266 : Nat × Nat × Sg := (1, 4, [(4, ((Int.ofNat 1), (Int.ofNat 1000), 0))])
/-- RoadHouseModel$HaulFlowsModel.below -/
def sp267 : Nat × Nat × Sg := (1, 4, [(4, ((Int.ofNat 1), (Int.ofNat 1000), 0))])
/-- RoadHouseModel$HaulFlowsModel.unfit -/
def sp268 : Nat × Nat × Sg := (2, 32, [(32, ((Int.ofNat 0), (Int.ofNat 1), 0))])
/-- RoadHouseModel$HaulFlowsModel.mosts -/
def sp269 : Nat × Nat × Sg := (1, 12, [(12, ((Int.ofNat 0), (Int.ofNat 1125899906842624), 0))])
/-- RoadHouseModel$HaulFlowsModel.begin -/
def sp270 : Nat × Nat × Sg := (0, 140, [(140, ((Int.ofNat 0), (Int.ofNat 0), 0))])
/-- RoadHouseModel$HaulFlowsModel.finish -/
def sp271 : Nat × Nat × Sg := (0, 140, [(140, ((Int.ofNat 0), (Int.ofNat 0), 0))])
/-- RoadHouseModel$HaulFlowsModel.most -/
def sp272 : Nat × Nat × Sg := (1, 140, [(140, ((Int.ofNat 0), (Int.ofNat 0), 0))])
/-- RoadHouseModel$HaulFlowsModel.price -/
def sp273 : Nat × Nat × Sg := (1, 140, [(140, ((Int.ofNat 0), (Int.ofNat 0), 0))])
/-- RoadHouseModel$HaulFlowsModel.flow -/
def sp274 : Nat × Nat × Sg := (1, 140, [(140, ((Int.ofNat 0), (Int.ofNat 0), 0))])
/-- RoadHouseModel$HaulFlowsModel.done -/
def sp275 : Nat × Nat × Sg := (2, 140, [(140, ((Int.ofNat 0), (Int.ofNat 0), 0))])
/-- RoadHouseModel$HaulFlowsModel.far -/
def sp276 : Nat × Nat × Sg := (1, 34, [(34, ((Int.ofNat 0), (Int.ofNat 1125899906842624), 0))])
/-- RoadHouseModel$HaulFlowsModel.by -/
def sp277 : Nat × Nat × Sg := (0, 34, [(34, ((Int.ofNat 0), (Int.ofNat 0), 0))])
/-- RoadHouseModel$HaulFlowsModel.plan -/
def sp278 : Nat × Nat × Sg := (1, 96, [(96, ((Int.ofNat 0), (Int.ofNat 0), 0))])
/-- RoadHouseModel.beams -/
def sp279 : Nat × Nat × Sg := (30, 0, [(1, ((Int.ofNat 0), (Int.ofNat 0), 0)), (2, ((Int.ofNat 2496), (Int.ofNat 2496), 280)), (3, ((Int.ofNat 2497), (Int.ofNat 2497), 281)), (4, ((Int.ofNat 1), (Int.ofNat 1), 0)), (5, ((Int.ofNat 2498), (Int.ofNat 2498), 282)), (6, ((Int.ofNat 2499), (Int.ofNat 2499), 283)), (7, ((Int.ofNat 2500), (Int.ofNat 2500), 284)), (8, ((Int.ofNat 2501), (Int.ofNat 2501), 285)), (9, ((Int.ofNat 2502), (Int.ofNat 2502), 286)), (10, ((Int.ofNat 2503), (Int.ofNat 2503), 287)), (11, ((Int.ofNat 0), (Int.ofNat 0), 0)), (12, ((Int.ofNat 2504), (Int.ofNat 2504), 288)), (13, ((Int.ofNat 0), (Int.ofNat 0), 0)), (14, ((Int.ofNat 2505), (Int.ofNat 2505), 289)), (15, ((Int.ofNat 2506), (Int.ofNat 2506), 290)), (16, ((Int.ofNat 2507), (Int.ofNat 2507), 291)), (17, ((Int.ofNat 0), (Int.ofNat 0), 0)), (18, ((Int.ofNat 0), (Int.ofNat 0), 0)), (19, ((Int.ofNat 0), (Int.ofNat 0), 0)), (20, ((Int.ofNat 2508), (Int.ofNat 2508), 292)), (21, ((Int.ofNat 0), (Int.ofNat 0), 0)), (22, ((Int.ofNat 2509), (Int.ofNat 2509), 293)), (23, ((Int.ofNat 2510), (Int.ofNat 2510), 294)), (24, ((Int.ofNat 2511), (Int.ofNat 2511), 295)), (25, ((Int.ofNat 2512), (Int.ofNat 2512), 296)), (26, ((Int.ofNat 2513), (Int.ofNat 2513), 297))])
/-- RoadHouseModel$InfluenceRowsModel.z -/
def sp280 : Nat × Nat × Sg := (0, 48300, [(48300, ((Int.ofNat 0), (Int.ofNat 0), 0))])
/-- RoadHouseModel$InfluenceRowsModel.signs -/
def sp281 : Nat × Nat × Sg := (0, 690, [(690, ((Int.ofNat 0), (Int.ofNat 0), 0))])
/-- RoadHouseModel$InfluenceRowsModel.lengths -/
def sp282 : Nat × Nat × Sg := (0, 3, [(3, ((Int.ofNat 0), (Int.ofNat 1), 0))])
/-- RoadHouseModel$InfluenceRowsModel.stiffs -/
def sp283 : Nat × Nat × Sg := (0, 3, [(3, ((Int.ofNat 0), (Int.ofNat 1), 0))])
/-- RoadHouseModel$InfluenceRowsModel.high -/
def sp284 : Nat × Nat × Sg := (2, 4, [(4, ((Int.ofNat 0), (Int.ofNat 1), 0))])
/-- RoadHouseModel$InfluenceRowsModel.turn -/
def sp285 : Nat × Nat × Sg := (2, 4, [(4, ((Int.ofNat 0), (Int.ofNat 1), 0))])
/-- RoadHouseModel$InfluenceRowsModel.hinges -/
def sp286 : Nat × Nat × Sg := (2, 6, [(6, ((Int.ofNat 0), (Int.ofNat 0), 0))])
/-- RoadHouseModel$InfluenceRowsModel.settles -/
def sp287 : Nat × Nat × Sg := (0, 4, [(4, ((Int.ofNat 0), (Int.ofNat 0), 0))])
/-- RoadHouseModel$InfluenceRowsModel.text -/
def sp288 : Nat × Nat × Sg := (0, 50, [(50, ((Int.ofNat 0), (Int.ofNat 0), 0))])
/-- RoadHouseModel$InfluenceRowsModel.rowWhat -/
def sp289 : Nat × Nat × Sg := (0, 8, [(8, ((Int.ofNat 0), (Int.ofNat 0), 0))])
/-- RoadHouseModel$InfluenceRowsModel.rowMember -/
def sp290 : Nat × Nat × Sg := (0, 8, [(8, ((Int.ofNat 0), (Int.ofNat 0), 0))])
/-- RoadHouseModel$InfluenceRowsModel.rowPlace -/
def sp291 : Nat × Nat × Sg := (0, 8, [(8, ((Int.ofNat 0), (Int.ofNat 0), 0))])
/-- RoadHouseModel$InfluenceRowsModel.tells -/
def sp292 : Nat × Nat × Sg := (0, 12, [(12, ((Int.ofNat 0), (Int.ofNat 0), 0))])
/-- RoadHouseModel$InfluenceRowsModel.readLength -/
def sp293 : Nat × Nat × Sg := (0, 3, [(3, ((Int.ofNat 0), (Int.ofNat 0), 0))])
/-- RoadHouseModel$InfluenceRowsModel.readStiff -/
def sp294 : Nat × Nat × Sg := (0, 3, [(3, ((Int.ofNat 0), (Int.ofNat 0), 0))])
/-- RoadHouseModel$InfluenceRowsModel.readHigh -/
def sp295 : Nat × Nat × Sg := (2, 4, [(4, ((Int.ofNat 0), (Int.ofNat 0), 0))])
/-- RoadHouseModel$InfluenceRowsModel.readTurn -/
def sp296 : Nat × Nat × Sg := (2, 4, [(4, ((Int.ofNat 0), (Int.ofNat 0), 0))])
/-- RoadHouseModel$InfluenceRowsModel.readHinge -/
def sp297 : Nat × Nat × Sg := (2, 6, [(6, ((Int.ofNat 0), (Int.ofNat 0), 0))])
/-- RoadHouseModel.trains -/
def sp298 : Nat × Nat × Sg := (35, 0, [(1, ((Int.ofNat 2515), (Int.ofNat 2515), 299)), (2, ((Int.ofNat 2516), (Int.ofNat 2516), 300)), (3, ((Int.ofNat 0), (Int.ofNat 0), 0)), (4, ((Int.ofNat 2517), (Int.ofNat 2517), 301)), (5, ((Int.ofNat 2518), (Int.ofNat 2518), 302)), (6, ((Int.ofNat 2519), (Int.ofNat 2519), 303)), (7, ((Int.ofNat 0), (Int.ofNat 0), 0)), (8, ((Int.ofNat 0), (Int.ofNat 0), 0)), (9, ((Int.ofNat 2520), (Int.ofNat 2520), 304)), (10, ((Int.ofNat 2521), (Int.ofNat 2521), 305)), (11, ((Int.ofNat 2522), (Int.ofNat 2522), 306)), (12, ((Int.ofNat 2523), (Int.ofNat 2523), 307)), (13, ((Int.ofNat 2524), (Int.ofNat 2524), 308)), (14, ((Int.ofNat 0), (Int.ofNat 0), 0)), (15, ((Int.ofNat 0), (Int.ofNat 0), 0)), (16, ((Int.ofNat 0), (Int.ofNat 0), 0)), (17, ((Int.ofNat 0), (Int.ofNat 0), 0)), (18, ((Int.ofNat 0), (Int.ofNat 0), 0)), (19, ((Int.ofNat 0), (Int.ofNat 0), 0)), (20, ((Int.ofNat 0), (Int.ofNat 0), 0)), (21, ((Int.ofNat 0), (Int.ofNat 0), 0)), (22, ((Int.ofNat 0), (Int.ofNat 0), 0)), (23, ((Int.ofNat 2525), (Int.ofNat 2525), 309)), (24, ((Int.ofNat 2526), (Int.ofNat 2526), 310)), (25, ((Int.ofNat 0), (Int.ofNat 0), 0)), (26, ((Int.ofNat 2527), (Int.ofNat 2527), 311)), (27, ((Int.ofNat 0), (Int.ofNat 0), 0)), (28, ((Int.ofNat 2528), (Int.ofNat 2528), 312)), (29, ((Int.ofNat 2529), (Int.ofNat 2529), 313)), (30, ((Int.ofNat 2530), (Int.ofNat 2530), 314)), (31, ((Int.ofNat 2531), (Int.ofNat 2531), 315)), (32, ((Int.ofNat 0), (Int.ofNat 0), 0)), (33, ((Int.ofNat 2532), (Int.ofNat 2532), 316)), (34, ((Int.ofNat 0), (Int.ofNat 0), 0)), (35, ((Int.ofNat 2533), (Int.ofNat 2533), 317))])
/-- RoadHouseModel$TrainWorstModel.z -/
def sp299 : Nat × Nat × Sg := (0, 4200, [(4200, ((Int.ofNat 0), (Int.ofNat 0), 0))])
/-- RoadHouseModel$TrainWorstModel.signs -/
def sp300 : Nat × Nat × Sg := (0, 30, [(30, ((Int.ofNat 0), (Int.ofNat 0), 0))])
/-- RoadHouseModel$TrainWorstModel.at -/
def sp301 : Nat × Nat × Sg := (0, 14, [(14, ((Int.ofNat 0), (Int.ofNat 0), 0))])
/-- RoadHouseModel$TrainWorstModel.above -/
def sp302 : Nat × Nat × Sg := (1, 14, [(14, ((Int.ofNat 0), (Int.ofNat 0), 0))])
/-- RoadHouseModel$TrainWorstModel.below -/
def sp303 : Nat × Nat × Sg := (1, 14, [(14, ((Int.ofNat 0), (Int.ofNat 0), 0))])
/-- RoadHouseModel$TrainWorstModel.axles -/
def sp304 : Nat × Nat × Sg := (0, 6, [(6, ((Int.ofNat 0), (Int.ofNat 0), 0))])
/-- RoadHouseModel$TrainWorstModel.behind -/
def sp305 : Nat × Nat × Sg := (0, 30, [(30, ((Int.ofNat 0), (Int.ofNat 0), 0))])
/-- RoadHouseModel$TrainWorstModel.loads -/
def sp306 : Nat × Nat × Sg := (0, 30, [(30, ((Int.ofNat 0), (Int.ofNat 0), 0))])
/-- RoadHouseModel$TrainWorstModel.least -/
def sp307 : Nat × Nat × Sg := (0, 6, [(6, ((Int.ofNat 0), (Int.ofNat 0), 0))])
/-- RoadHouseModel$TrainWorstModel.most -/
def sp308 : Nat × Nat × Sg := (0, 6, [(6, ((Int.ofNat 0), (Int.ofNat 0), 0))])
/-- RoadHouseModel$TrainWorstModel.laneAbove -/
def sp309 : Nat × Nat × Sg := (1, 4, [(4, ((Int.ofNat 0), (Int.ofNat 0), 0))])
/-- RoadHouseModel$TrainWorstModel.laneBelow -/
def sp310 : Nat × Nat × Sg := (1, 4, [(4, ((Int.ofNat 0), (Int.ofNat 0), 0))])
/-- RoadHouseModel$TrainWorstModel.text -/
def sp311 : Nat × Nat × Sg := (0, 100, [(100, ((Int.ofNat 0), (Int.ofNat 0), 0))])
/-- RoadHouseModel$TrainWorstModel.terms -/
def sp312 : Nat × Nat × Sg := (0, 8, [(8, ((Int.ofNat 0), (Int.ofNat 0), 0))])
/-- RoadHouseModel$TrainWorstModel.term -/
def sp313 : Nat × Nat × Sg := (0, 144, [(144, ((Int.ofNat 0), (Int.ofNat 0), 0))])
/-- RoadHouseModel$TrainWorstModel.readTerms -/
def sp314 : Nat × Nat × Sg := (0, 8, [(8, ((Int.ofNat 0), (Int.ofNat 0), 0))])
/-- RoadHouseModel$TrainWorstModel.read -/
def sp315 : Nat × Nat × Sg := (0, 144, [(144, ((Int.ofNat 0), (Int.ofNat 0), 0))])
/-- RoadHouseModel$TrainWorstModel.places -/
def sp316 : Nat × Nat × Sg := (0, 80, [(80, ((Int.ofNat 0), (Int.ofNat 0), 0))])
/-- RoadHouseModel$TrainWorstModel.gap -/
def sp317 : Nat × Nat × Sg := (0, 80, [(80, ((Int.ofNat 0), (Int.ofNat 0), 0))])
/-- RoadHouseModel.stress -/
def sp318 : Nat × Nat × Sg := (34, 0, [(1, ((Int.ofNat 0), (Int.ofNat 0), 0)), (2, ((Int.ofNat 2535), (Int.ofNat 2535), 319)), (3, ((Int.ofNat 0), (Int.ofNat 0), 0)), (4, ((Int.ofNat 2536), (Int.ofNat 2536), 320)), (5, ((Int.ofNat 0), (Int.ofNat 0), 0)), (6, ((Int.ofNat 2537), (Int.ofNat 2537), 321)), (7, ((Int.ofNat 2538), (Int.ofNat 2538), 322)), (8, ((Int.ofNat 2539), (Int.ofNat 2539), 323)), (9, ((Int.ofNat 2540), (Int.ofNat 2540), 324)), (10, ((Int.ofNat 2541), (Int.ofNat 2541), 325)), (11, ((Int.ofNat 2542), (Int.ofNat 2542), 326)), (12, ((Int.ofNat 2543), (Int.ofNat 2543), 327)), (13, ((Int.ofNat 1), (Int.ofNat 1), 0)), (14, ((Int.ofNat 1), (Int.ofNat 1), 0)), (15, ((Int.ofNat 1), (Int.ofNat 1), 0)), (16, ((Int.ofNat 2544), (Int.ofNat 2544), 328)), (17, ((Int.ofNat 0), (Int.ofNat 0), 0)), (18, ((Int.ofNat 2545), (Int.ofNat 2545), 329)), (19, ((Int.ofNat 0), (Int.ofNat 18446744073709551615), 0)), (20, ((Int.ofNat 0), (Int.ofNat 0), 0)), (21, ((Int.ofNat 2546), (Int.ofNat 2546), 330)), (22, ((Int.ofNat 2547), (Int.ofNat 2547), 331)), (23, ((Int.ofNat 2548), (Int.ofNat 2548), 331)), (24, ((Int.ofNat 2549), (Int.ofNat 2549), 331)), (25, ((Int.ofNat 2550), (Int.ofNat 2550), 332))])
/-- RoadHouseModel$StressTurnsModel.row -/
def sp319 : Nat × Nat × Sg := (0, 300, [(300, ((Int.ofNat 0), (Int.ofNat 0), 0))])
/-- RoadHouseModel$StressTurnsModel.point -/
def sp320 : Nat × Nat × Sg := (0, 301, [(301, ((Int.ofNat 0), (Int.ofNat 0), 0))])
/-- RoadHouseModel$StressTurnsModel.from -/
def sp321 : Nat × Nat × Sg := (0, 300, [(300, ((Int.ofNat 0), (Int.ofNat 0), 0))])
/-- RoadHouseModel$StressTurnsModel.to -/
def sp322 : Nat × Nat × Sg := (0, 300, [(300, ((Int.ofNat 0), (Int.ofNat 0), 0))])
/-- RoadHouseModel$StressTurnsModel.when -/
def sp323 : Nat × Nat × Sg := (0, 300, [(300, ((Int.ofNat 0), (Int.ofNat 0), 0))])
/-- RoadHouseModel$StressTurnsModel.lines -/
def sp324 : Nat × Nat × Sg := (0, 8, [(8, ((Int.ofNat 0), (Int.ofNat 0), 0))])
/-- RoadHouseModel$StressTurnsModel.ranges -/
def sp325 : Nat × Nat × Sg := (1, 32, [(32, ((Int.ofNat 0), (Int.ofNat 0), 0))])
/-- RoadHouseModel$StressTurnsModel.cycles -/
def sp326 : Nat × Nat × Sg := (1, 32, [(32, ((Int.ofNat 0), (Int.ofNat 0), 0))])
/-- RoadHouseModel$StressTurnsModel.cutOffs -/
def sp327 : Nat × Nat × Sg := (1, 8, [(8, ((Int.ofNat 0), (Int.ofNat 0), 0))])
/-- RoadHouseModel$StressTurnsModel.costs -/
def sp328 : Nat × Nat × Sg := (1, 2, [(2, ((Int.ofNat 0), (Int.ofNat 0), 0))])
/-- RoadHouseModel$StressTurnsModel.history -/
def sp329 : Nat × Nat × Sg := (0, 80, [(80, ((Int.ofNat 0), (Int.ofNat 0), 0))])
/-- RoadHouseModel$StressTurnsModel.halves -/
def sp330 : Nat × Nat × Sg := (0, 32, [(32, ((Int.ofNat 0), (Int.ofNat 0), 0))])
/-- RoadHouseModel$StressTurnsModel.upper -/
def sp331 : Nat × Nat × Sg := (0, 64, [(64, ((Int.ofNat 0), (Int.ofNat 0), 0))])
/-- RoadHouseModel$StressTurnsModel.plans -/
def sp332 : Nat × Nat × Sg := (1, 961, [(961, ((Int.ofNat 0), (Int.ofNat 0), 0))])
/-- RoadHouseModel.signals -/
def sp333 : Nat × Nat × Sg := (32, 0, [(1, ((Int.ofNat 0), (Int.ofNat 0), 0)), (2, ((Int.ofNat 1), (Int.ofNat 1), 0)), (3, ((Int.ofNat 2552), (Int.ofNat 2552), 334)), (4, ((Int.ofNat 2553), (Int.ofNat 2553), 335)), (5, ((Int.ofNat 2554), (Int.ofNat 2554), 336)), (6, ((Int.ofNat 2555), (Int.ofNat 2555), 337)), (7, ((Int.ofNat 0), (Int.ofNat 0), 0)), (8, ((Int.ofNat 2556), (Int.ofNat 2556), 338)), (9, ((Int.ofNat 2557), (Int.ofNat 2557), 339)), (10, ((Int.ofNat 2558), (Int.ofNat 2558), 340)), (11, ((Int.ofNat 0), (Int.ofNat 0), 0)), (12, ((Int.ofNat 2559), (Int.ofNat 2559), 341)), (13, ((Int.ofNat 2560), (Int.ofNat 2560), 342)), (14, ((Int.ofNat 2561), (Int.ofNat 2561), 343)), (15, ((Int.ofNat 0), (Int.ofNat 0), 0)), (16, ((Int.ofNat 0), (Int.ofNat 0), 0)), (17, ((Int.ofNat 2562), (Int.ofNat 2562), 344)), (18, ((Int.ofNat 2563), (Int.ofNat 2563), 345)), (19, ((Int.ofNat 0), (Int.ofNat 0), 0)), (20, ((Int.ofNat 0), (Int.ofNat 0), 0)), (21, ((Int.negSucc 0), (Int.negSucc 0), 0)), (22, ((Int.ofNat 0), (Int.ofNat 0), 0)), (23, ((Int.ofNat 2564), (Int.ofNat 2564), 346)), (24, ((Int.ofNat 2565), (Int.ofNat 2565), 347)), (25, ((Int.ofNat 2566), (Int.ofNat 2566), 348)), (26, ((Int.ofNat 2567), (Int.ofNat 2567), 349)), (27, ((Int.ofNat 2568), (Int.ofNat 2568), 350)), (28, ((Int.ofNat 0), (Int.ofNat 0), 0)), (29, ((Int.ofNat 0), (Int.ofNat 0), 0)), (30, ((Int.ofNat 2569), (Int.ofNat 2569), 351))])
/-- RoadHouseModel$SignalProofsModel.least -/
def sp334 : Nat × Nat × Sg := (0, 6, [(6, ((Int.ofNat 1), (Int.ofNat 1), 0))])
/-- RoadHouseModel$SignalProofsModel.most -/
def sp335 : Nat × Nat × Sg := (0, 6, [(6, ((Int.ofNat 31), (Int.ofNat 31), 0))])
/-- RoadHouseModel$SignalProofsModel.clashes -/
def sp336 : Nat × Nat × Sg := (2, 36, [(36, ((Int.ofNat 0), (Int.ofNat 0), 0))])
/-- RoadHouseModel$SignalProofsModel.clears -/
def sp337 : Nat × Nat × Sg := (0, 36, [(36, ((Int.ofNat 0), (Int.ofNat 0), 0))])
/-- RoadHouseModel$SignalProofsModel.phases -/
def sp338 : Nat × Nat × Sg := (0, 3, [(3, ((Int.ofNat 0), (Int.ofNat 0), 0))])
/-- RoadHouseModel$SignalProofsModel.told -/
def sp339 : Nat × Nat × Sg := (0, 45, [(45, ((Int.ofNat 0), (Int.ofNat 0), 0))])
/-- RoadHouseModel$SignalProofsModel.readPhase -/
def sp340 : Nat × Nat × Sg := (0, 15, [(15, ((Int.ofNat 0), (Int.ofNat 0), 0))])
/-- RoadHouseModel$SignalProofsModel.text -/
def sp341 : Nat × Nat × Sg := (0, 60, [(60, ((Int.ofNat 0), (Int.ofNat 0), 0))])
/-- RoadHouseModel$SignalProofsModel.machine -/
def sp342 : Nat × Nat × Sg := (0, 14, [(14, ((Int.ofNat 0), (Int.ofNat 0), 0))])
/-- RoadHouseModel$SignalProofsModel.state -/
def sp343 : Nat × Nat × Sg := (0, 14, [(14, ((Int.ofNat 0), (Int.ofNat 0), 0))])
/-- RoadHouseModel$SignalProofsModel.when -/
def sp344 : Nat × Nat × Sg := (0, 60, [(60, ((Int.ofNat 0), (Int.ofNat 0), 0))])
/-- RoadHouseModel$SignalProofsModel.what -/
def sp345 : Nat × Nat × Sg := (0, 60, [(60, ((Int.ofNat 0), (Int.ofNat 0), 0))])
/-- RoadHouseModel$SignalProofsModel.rows -/
def sp346 : Nat × Nat × Sg := (0, 5600, [(5600, ((Int.ofNat 0), (Int.ofNat 0), 0))])
/-- RoadHouseModel$SignalProofsModel.keys -/
def sp347 : Nat × Nat × Sg := (0, 400, [(400, ((Int.ofNat 0), (Int.ofNat 0), 0))])
/-- RoadHouseModel$SignalProofsModel.from -/
def sp348 : Nat × Nat × Sg := (0, 400, [(400, ((Int.ofNat 0), (Int.ofNat 0), 0))])
/-- RoadHouseModel$SignalProofsModel.by -/
def sp349 : Nat × Nat × Sg := (0, 400, [(400, ((Int.ofNat 0), (Int.ofNat 0), 0))])
/-- RoadHouseModel$SignalProofsModel.leads -/
def sp350 : Nat × Nat × Sg := (0, 4000, [(4000, ((Int.ofNat 0), (Int.ofNat 0), 0))])
/-- RoadHouseModel$SignalProofsModel.waits -/
def sp351 : Nat × Nat × Sg := (0, 400, [(400, ((Int.ofNat 0), (Int.ofNat 0), 0))])
/-- RoadHouseModel.cars -/
def sp352 : Nat × Nat × Sg := (33, 0, [(1, ((Int.ofNat 24), (Int.ofNat 24), 0)), (2, ((Int.ofNat 2571), (Int.ofNat 2571), 353)), (3, ((Int.ofNat 2572), (Int.ofNat 2572), 354)), (4, ((Int.ofNat 2573), (Int.ofNat 2573), 355)), (5, ((Int.ofNat 2574), (Int.ofNat 2574), 356)), (6, ((Int.ofNat 2575), (Int.ofNat 2575), 357)), (7, ((Int.ofNat 0), (Int.ofNat 0), 0)), (8, ((Int.ofNat 2576), (Int.ofNat 2576), 358)), (9, ((Int.ofNat 2577), (Int.ofNat 2577), 359)), (10, ((Int.ofNat 2578), (Int.ofNat 2578), 360)), (11, ((Int.ofNat 2579), (Int.ofNat 2579), 361)), (12, ((Int.ofNat 2580), (Int.ofNat 2580), 362)), (13, ((Int.ofNat 2581), (Int.ofNat 2581), 363)), (14, ((Int.ofNat 2582), (Int.ofNat 2582), 364)), (15, ((Int.ofNat 0), (Int.ofNat 0), 0)), (16, ((Int.ofNat 2583), (Int.ofNat 2583), 365)), (17, ((Int.ofNat 0), (Int.ofNat 0), 0)), (18, ((Int.ofNat 2584), (Int.ofNat 2584), 366)), (19, ((Int.ofNat 0), (Int.ofNat 0), 0)), (20, ((Int.ofNat 2585), (Int.ofNat 2585), 367)), (21, ((Int.ofNat 0), (Int.ofNat 0), 0)), (22, ((Int.ofNat 2586), (Int.ofNat 2586), 368)), (23, ((Int.ofNat 2587), (Int.ofNat 2587), 369)), (24, ((Int.ofNat 2588), (Int.ofNat 2588), 370)), (25, ((Int.ofNat 0), (Int.ofNat 0), 0)), (26, ((Int.ofNat 2589), (Int.ofNat 2589), 371)), (27, ((Int.ofNat 2590), (Int.ofNat 2590), 372)), (28, ((Int.ofNat 2591), (Int.ofNat 2591), 373)), (29, ((Int.ofNat 2592), (Int.ofNat 2592), 374)), (30, ((Int.ofNat 2593), (Int.ofNat 2593), 375)), (31, ((Int.ofNat 2594), (Int.ofNat 2594), 376)), (32, ((Int.ofNat 0), (Int.ofNat 0), 0))])
/-- RoadHouseModel$StreetCellsModel.room -/
def sp353 : Nat × Nat × Sg := (0, 24, [(24, ((Int.ofNat 0), (Int.ofNat 0), 0))])
/-- RoadHouseModel$StreetCellsModel.most -/
def sp354 : Nat × Nat × Sg := (0, 24, [(24, ((Int.ofNat 0), (Int.ofNat 0), 0))])
/-- RoadHouseModel$StreetCellsModel.speed -/
def sp355 : Nat × Nat × Sg := (0, 24, [(24, ((Int.ofNat 0), (Int.ofNat 0), 0))])
/-- RoadHouseModel$StreetCellsModel.least -/
def sp356 : Nat × Nat × Sg := (0, 24, [(24, ((Int.ofNat 0), (Int.ofNat 0), 0))])
/-- RoadHouseModel$StreetCellsModel.lane -/
def sp357 : Nat × Nat × Sg := (0, 24, [(24, ((Int.ofNat 0), (Int.ofNat 0), 0))])
/-- RoadHouseModel$StreetCellsModel.from -/
def sp358 : Nat × Nat × Sg := (0, 96, [(96, ((Int.ofNat 0), (Int.ofNat 0), 0))])
/-- RoadHouseModel$StreetCellsModel.to -/
def sp359 : Nat × Nat × Sg := (0, 96, [(96, ((Int.ofNat 0), (Int.ofNat 0), 0))])
/-- RoadHouseModel$StreetCellsModel.above -/
def sp360 : Nat × Nat × Sg := (0, 96, [(96, ((Int.ofNat 0), (Int.ofNat 0), 0))])
/-- RoadHouseModel$StreetCellsModel.below -/
def sp361 : Nat × Nat × Sg := (0, 96, [(96, ((Int.ofNat 0), (Int.ofNat 0), 0))])
/-- RoadHouseModel$StreetCellsModel.rank -/
def sp362 : Nat × Nat × Sg := (0, 96, [(96, ((Int.ofNat 0), (Int.ofNat 0), 0))])
/-- RoadHouseModel$StreetCellsModel.wanted -/
def sp363 : Nat × Nat × Sg := (0, 96, [(96, ((Int.ofNat 0), (Int.ofNat 0), 0))])
/-- RoadHouseModel$StreetCellsModel.taken -/
def sp364 : Nat × Nat × Sg := (0, 96, [(96, ((Int.ofNat 0), (Int.ofNat 0), 0))])
/-- RoadHouseModel$StreetCellsModel.setting -/
def sp365 : Nat × Nat × Sg := (0, 1200, [(1200, ((Int.ofNat 0), (Int.ofNat 0), 0))])
/-- RoadHouseModel$StreetCellsModel.entry -/
def sp366 : Nat × Nat × Sg := (0, 600, [(600, ((Int.ofNat 0), (Int.ofNat 0), 0))])
/-- RoadHouseModel$StreetCellsModel.measure -/
def sp367 : Nat × Nat × Sg := (0, 180, [(180, ((Int.ofNat 0), (Int.ofNat 0), 0))])
/-- RoadHouseModel$StreetCellsModel.rule -/
def sp368 : Nat × Nat × Sg := (0, 36, [(36, ((Int.ofNat 0), (Int.ofNat 0), 0))])
/-- RoadHouseModel$StreetCellsModel.now -/
def sp369 : Nat × Nat × Sg := (1, 10216, [(24, ((Int.ofNat 0), (Int.ofNat 0), 0)), (48, ((Int.ofNat 0), (Int.ofNat 0), 0)), (72, ((Int.ofNat 0), (Int.ofNat 0), 0)), (168, ((Int.ofNat 0), (Int.ofNat 0), 0)), (264, ((Int.ofNat 0), (Int.ofNat 0), 0)), (265, ((Int.ofNat 0), (Int.ofNat 0), 0)), (266, ((Int.ofNat 0), (Int.ofNat 0), 0)), (267, ((Int.ofNat 0), (Int.ofNat 0), 0)), (268, ((Int.ofNat 0), (Int.ofNat 0), 0)), (568, ((Int.ofNat 0), (Int.ofNat 0), 0)), (5392, ((Int.ofNat 0), (Int.ofNat 0), 0)), (10216, ((Int.ofNat 0), (Int.ofNat 0), 0))])
/-- RoadHouseModel$StreetCellsModel.kept -/
def sp370 : Nat × Nat × Sg := (1, 40864, [(24, ((Int.ofNat 0), (Int.ofNat 0), 0)), (48, ((Int.ofNat 0), (Int.ofNat 0), 0)), (72, ((Int.ofNat 0), (Int.ofNat 0), 0)), (168, ((Int.ofNat 0), (Int.ofNat 0), 0)), (264, ((Int.ofNat 0), (Int.ofNat 0), 0)), (265, ((Int.ofNat 0), (Int.ofNat 0), 0)), (266, ((Int.ofNat 0), (Int.ofNat 0), 0)), (267, ((Int.ofNat 0), (Int.ofNat 0), 0)), (268, ((Int.ofNat 0), (Int.ofNat 0), 0)), (568, ((Int.ofNat 0), (Int.ofNat 0), 0)), (5392, ((Int.ofNat 0), (Int.ofNat 0), 0)), (10216, ((Int.ofNat 0), (Int.ofNat 0), 0)), (10240, ((Int.ofNat 0), (Int.ofNat 0), 0)), (10264, ((Int.ofNat 0), (Int.ofNat 0), 0)), (10288, ((Int.ofNat 0), (Int.ofNat 0), 0)), (10384, ((Int.ofNat 0), (Int.ofNat 0), 0)), (10480, ((Int.ofNat 0), (Int.ofNat 0), 0)), (10481, ((Int.ofNat 0), (Int.ofNat 0), 0)), (10482, ((Int.ofNat 0), (Int.ofNat 0), 0)), (10483, ((Int.ofNat 0), (Int.ofNat 0), 0)), (10484, ((Int.ofNat 0), (Int.ofNat 0), 0)), (10784, ((Int.ofNat 0), (Int.ofNat 0), 0)), (15608, ((Int.ofNat 0), (Int.ofNat 0), 0)), (20432, ((Int.ofNat 0), (Int.ofNat 0), 0)), (20456, ((Int.ofNat 0), (Int.ofNat 0), 0)), (20480, ((Int.ofNat 0), (Int.ofNat 0), 0)), (20504, ((Int.ofNat 0), (Int.ofNat 0), 0)), (20600, ((Int.ofNat 0), (Int.ofNat 0), 0)), (20696, ((Int.ofNat 0), (Int.ofNat 0), 0)), (20697, ((Int.ofNat 0), (Int.ofNat 0), 0)), (20698, ((Int.ofNat 0), (Int.ofNat 0), 0)), (20699, ((Int.ofNat 0), (Int.ofNat 0), 0)), (20700, ((Int.ofNat 0), (Int.ofNat 0), 0)), (21000, ((Int.ofNat 0), (Int.ofNat 0), 0)), (25824, ((Int.ofNat 0), (Int.ofNat 0), 0)), (30648, ((Int.ofNat 0), (Int.ofNat 0), 0)), (30672, ((Int.ofNat 0), (Int.ofNat 0), 0)), (30696, ((Int.ofNat 0), (Int.ofNat 0), 0)), (30720, ((Int.ofNat 0), (Int.ofNat 0), 0)), (30816, ((Int.ofNat 0), (Int.ofNat 0), 0)), (30912, ((Int.ofNat 0), (Int.ofNat 0), 0)), (30913, ((Int.ofNat 0), (Int.ofNat 0), 0)), (30914, ((Int.ofNat 0), (Int.ofNat 0), 0)), (30915, ((Int.ofNat 0), (Int.ofNat 0), 0)), (30916, ((Int.ofNat 0), (Int.ofNat 0), 0)), (31216, ((Int.ofNat 0), (Int.ofNat 0), 0)), (36040, ((Int.ofNat 0), (Int.ofNat 0), 0)), (40864, ((Int.ofNat 0), (Int.ofNat 0), 0))])
/-- RoadHouseModel$StreetCellsModel.cap -/
def sp371 : Nat × Nat × Sg := (0, 24, [(24, ((Int.ofNat 0), (Int.ofNat 0), 0))])
/-- RoadHouseModel$StreetCellsModel.can -/
def sp372 : Nat × Nat × Sg := (0, 24, [(24, ((Int.ofNat 0), (Int.ofNat 0), 0))])
/-- RoadHouseModel$StreetCellsModel.sends -/
def sp373 : Nat × Nat × Sg := (0, 24, [(24, ((Int.ofNat 0), (Int.ofNat 0), 0))])
/-- RoadHouseModel$StreetCellsModel.takes -/
def sp374 : Nat × Nat × Sg := (0, 24, [(24, ((Int.ofNat 0), (Int.ofNat 0), 0))])
/-- RoadHouseModel$StreetCellsModel.held -/
def sp375 : Nat × Nat × Sg := (2, 24, [(24, ((Int.ofNat 0), (Int.ofNat 0), 0))])
/-- RoadHouseModel$StreetCellsModel.gains -/
def sp376 : Nat × Nat × Sg := (0, 24, [(24, ((Int.ofNat 0), (Int.ofNat 0), 0))])
/-- RoadHouseModel.contract -/
def sp377 : Nat × Nat × Sg := (31, 0, [(1, ((Int.ofNat 0), (Int.ofNat 0), 0)), (2, ((Int.ofNat 0), (Int.ofNat 0), 0)), (3, ((Int.ofNat 2596), (Int.ofNat 2596), 378)), (4, ((Int.ofNat 2597), (Int.ofNat 2597), 379)), (5, ((Int.ofNat 0), (Int.ofNat 0), 0)), (6, ((Int.ofNat 2598), (Int.ofNat 2598), 380)), (7, ((Int.ofNat 2599), (Int.ofNat 2599), 381)), (8, ((Int.ofNat 0), (Int.ofNat 0), 0)), (9, ((Int.ofNat 2600), (Int.ofNat 2600), 382)), (10, ((Int.ofNat 2601), (Int.ofNat 2601), 383)), (11, ((Int.ofNat 2602), (Int.ofNat 2602), 384)), (12, ((Int.ofNat 2603), (Int.ofNat 2603), 385)), (13, ((Int.ofNat 0), (Int.ofNat 0), 0)), (14, ((Int.ofNat 0), (Int.ofNat 0), 0)), (15, ((Int.ofNat 2604), (Int.ofNat 2604), 386)), (16, ((Int.ofNat 2605), (Int.ofNat 2605), 387)), (17, ((Int.ofNat 0), (Int.ofNat 0), 0)), (18, ((Int.ofNat 2606), (Int.ofNat 2606), 388)), (19, ((Int.ofNat 0), (Int.ofNat 0), 0)), (20, ((Int.ofNat 2607), (Int.ofNat 2607), 389)), (21, ((Int.ofNat 2608), (Int.ofNat 2608), 390)), (22, ((Int.ofNat 2609), (Int.ofNat 2609), 391)), (23, ((Int.ofNat 0), (Int.ofNat 0), 0)), (24, ((Int.ofNat 2610), (Int.ofNat 2610), 392)), (25, ((Int.ofNat 0), (Int.ofNat 0), 0)), (26, ((Int.ofNat 2611), (Int.ofNat 2611), 393)), (27, ((Int.ofNat 0), (Int.ofNat 0), 0)), (28, ((Int.ofNat 2612), (Int.ofNat 2612), 394)), (29, ((Int.ofNat 2613), (Int.ofNat 2613), 395)), (30, ((Int.ofNat 2614), (Int.ofNat 2614), 396)), (31, ((Int.ofNat 2615), (Int.ofNat 2615), 397)), (32, ((Int.ofNat 0), (Int.ofNat 0), 0)), (33, ((Int.ofNat 1), (Int.ofNat 1), 0)), (34, ((Int.negSucc 0), (Int.negSucc 0), 0)), (35, ((Int.ofNat 2616), (Int.ofNat 2616), 398)), (36, ((Int.ofNat 2617), (Int.ofNat 2617), 399)), (37, ((Int.ofNat 0), (Int.ofNat 0), 0)), (38, ((Int.ofNat 0), (Int.ofNat 0), 0)), (39, ((Int.ofNat 2618), (Int.ofNat 2618), 400)), (40, ((Int.ofNat 0), (Int.ofNat 0), 0))])
/-- RoadHouseModel$RateQuantitiesModel.text -/
def sp378 : Nat × Nat × Sg := (0, 200, [(200, ((Int.ofNat 0), (Int.ofNat 0), 0))])
/-- RoadHouseModel$RateQuantitiesModel.kept -/
def sp379 : Nat × Nat × Sg := (0, 200, [(200, ((Int.ofNat 0), (Int.ofNat 0), 0))])
/-- RoadHouseModel$RateQuantitiesModel.begins -/
def sp380 : Nat × Nat × Sg := (0, 201, [(201, ((Int.ofNat 0), (Int.ofNat 0), 0))])
/-- RoadHouseModel$RateQuantitiesModel.ends -/
def sp381 : Nat × Nat × Sg := (0, 201, [(201, ((Int.ofNat 0), (Int.ofNat 0), 0))])
/-- RoadHouseModel$RateQuantitiesModel.names -/
def sp382 : Nat × Nat × Sg := (0, 8, [(8, ((Int.ofNat 0), (Int.ofNat 0), 0))])
/-- RoadHouseModel$RateQuantitiesModel.froms -/
def sp383 : Nat × Nat × Sg := (0, 8, [(8, ((Int.ofNat 0), (Int.ofNat 0), 0))])
/-- RoadHouseModel$RateQuantitiesModel.tos -/
def sp384 : Nat × Nat × Sg := (0, 8, [(8, ((Int.ofNat 0), (Int.ofNat 0), 0))])
/-- RoadHouseModel$RateQuantitiesModel.steps -/
def sp385 : Nat × Nat × Sg := (0, 8, [(8, ((Int.ofNat 0), (Int.ofNat 0), 0))])
/-- RoadHouseModel$RateQuantitiesModel.rates -/
def sp386 : Nat × Nat × Sg := (1, 8, [(8, ((Int.ofNat 0), (Int.ofNat 0), 0))])
/-- RoadHouseModel$RateQuantitiesModel.counts -/
def sp387 : Nat × Nat × Sg := (0, 8, [(8, ((Int.ofNat 0), (Int.ofNat 0), 0))])
/-- RoadHouseModel$RateQuantitiesModel.numbers -/
def sp388 : Nat × Nat × Sg := (0, 160, [(160, ((Int.ofNat 0), (Int.ofNat 0), 0))])
/-- RoadHouseModel$RateQuantitiesModel.entry -/
def sp389 : Nat × Nat × Sg := (0, 240, [(240, ((Int.ofNat 0), (Int.ofNat 0), 0))])
/-- RoadHouseModel$RateQuantitiesModel.now -/
def sp390 : Nat × Nat × Sg := (0, 240, [(240, ((Int.ofNat 0), (Int.ofNat 0), 0))])
/-- RoadHouseModel$RateQuantitiesModel.before -/
def sp391 : Nat × Nat × Sg := (0, 240, [(240, ((Int.ofNat 0), (Int.ofNat 0), 0))])
/-- RoadHouseModel$RateQuantitiesModel.change -/
def sp392 : Nat × Nat × Sg := (0, 80, [(80, ((Int.ofNat 0), (Int.ofNat 0), 0))])
/-- RoadHouseModel$RateQuantitiesModel.penalty -/
def sp393 : Nat × Nat × Sg := (0, 30, [(30, ((Int.ofNat 0), (Int.ofNat 0), 0))])
/-- RoadHouseModel$RateQuantitiesModel.trouble -/
def sp394 : Nat × Nat × Sg := (0, 300, [(300, ((Int.ofNat 0), (Int.ofNat 0), 0))])
/-- RoadHouseModel$RateQuantitiesModel.above -/
def sp395 : Nat × Nat × Sg := (1, 12, [(12, ((Int.ofNat 1), (Int.ofNat 1), 0))])
/-- RoadHouseModel$RateQuantitiesModel.below -/
def sp396 : Nat × Nat × Sg := (1, 12, [(12, ((Int.ofNat 1), (Int.ofNat 1), 0))])
/-- RoadHouseModel$RateQuantitiesModel.weights -/
def sp397 : Nat × Nat × Sg := (1, 4, [(4, ((Int.ofNat 0), (Int.ofNat 0), 0))])
/-- RoadHouseModel$RateQuantitiesModel.values -/
def sp398 : Nat × Nat × Sg := (1, 64, [(64, ((Int.ofNat 0), (Int.ofNat 0), 0))])
/-- RoadHouseModel$RateQuantitiesModel.signs -/
def sp399 : Nat × Nat × Sg := (0, 64, [(64, ((Int.ofNat 0), (Int.ofNat 0), 0))])
/-- RoadHouseModel$RateQuantitiesModel.out -/
def sp400 : Nat × Nat × Sg := (0, 600, [(600, ((Int.ofNat 0), (Int.ofNat 0), 0))])
/-- RoadHouseModel.levels -/
def sp401 : Nat × Nat × Sg := (0, 144, [(144, ((Int.ofNat 0), (Int.ofNat 0), 0))])
/-- RoadHouseModel.kinds -/
def sp402 : Nat × Nat × Sg := (0, 144, [(144, ((Int.ofNat 0), (Int.ofNat 0), 0))])
/-- RoadHouseModel.weeks -/
def sp403 : Nat × Nat × Sg := (0, 8, [(8, ((Int.ofNat 0), (Int.ofNat 0), 0))])
/-- RoadHouseModel.dark -/
def sp404 : Nat × Nat × Sg := (2, 6, [(6, ((Int.ofNat 0), (Int.ofNat 0), 0))])
/-- RoadHouseModel.cells -/
def sp405 : Nat × Nat × Sg := (0, 5001, [(5001, ((Int.ofNat 0), (Int.ofNat 0), 0))])
/-- RoadHouseModel.metres -/
def sp406 : Nat × Nat × Sg := (0, 5001, [(5001, ((Int.ofNat 0), (Int.ofNat 0), 0))])
/-- RoadHouseModel.lengths -/
def sp407 : Nat × Nat × Sg := (0, 5001, [(5001, ((Int.ofNat 0), (Int.ofNat 0), 0))])
/-- RoadHouseModel.corners -/
def sp408 : Nat × Nat × Sg := (1, 14, [(14, ((Int.ofNat 0), (Int.ofNat 0), 0))])
/-- cell2627 -/
def sp409 : Nat × Nat × Sg := (1, 1, [(1, ((Int.ofNat 0), (Int.ofNat 0), 0))])
def sp0 : Nat × Nat × Sg := (99, 0, [])
set_option maxRecDepth 100000 in
def spT (n : Nat) : Nat × Nat × Sg := (bif Nat.blt n 205 then (bif Nat.blt n 102 then (bif Nat.blt n 51 then (bif Nat.blt n 25 then (bif Nat.blt n 12 then (bif Nat.blt n 6 then (bif Nat.blt n 3 then (bif Nat.blt n 1 then sp0 else (bif Nat.blt n 2 then sp1 else sp2)) else (bif Nat.blt n 4 then sp3 else (bif Nat.blt n 5 then sp4 else sp5))) else (bif Nat.blt n 9 then (bif Nat.blt n 7 then sp6 else (bif Nat.blt n 8 then sp7 else sp8)) else (bif Nat.blt n 10 then sp9 else (bif Nat.blt n 11 then sp10 else sp11)))) else (bif Nat.blt n 18 then (bif Nat.blt n 15 then (bif Nat.blt n 13 then sp12 else (bif Nat.blt n 14 then sp13 else sp14)) else (bif Nat.blt n 16 then sp15 else (bif Nat.blt n 17 then sp16 else sp17))) else (bif Nat.blt n 21 then (bif Nat.blt n 19 then sp18 else (bif Nat.blt n 20 then sp19 else sp20)) else (bif Nat.blt n 23 then (bif Nat.blt n 22 then sp21 else sp22) else (bif Nat.blt n 24 then sp23 else sp24))))) else (bif Nat.blt n 38 then (bif Nat.blt n 31 then (bif Nat.blt n 28 then (bif Nat.blt n 26 then sp25 else (bif Nat.blt n 27 then sp26 else sp27)) else (bif Nat.blt n 29 then sp28 else (bif Nat.blt n 30 then sp29 else sp30))) else (bif Nat.blt n 34 then (bif Nat.blt n 32 then sp31 else (bif Nat.blt n 33 then sp32 else sp33)) else (bif Nat.blt n 36 then (bif Nat.blt n 35 then sp34 else sp35) else (bif Nat.blt n 37 then sp36 else sp37)))) else (bif Nat.blt n 44 then (bif Nat.blt n 41 then (bif Nat.blt n 39 then sp38 else (bif Nat.blt n 40 then sp39 else sp40)) else (bif Nat.blt n 42 then sp41 else (bif Nat.blt n 43 then sp42 else sp43))) else (bif Nat.blt n 47 then (bif Nat.blt n 45 then sp44 else (bif Nat.blt n 46 then sp45 else sp46)) else (bif Nat.blt n 49 then (bif Nat.blt n 48 then sp47 else sp48) else (bif Nat.blt n 50 then sp49 else sp50)))))) else (bif Nat.blt n 76 then (bif Nat.blt n 63 then (bif Nat.blt n 57 then (bif Nat.blt n 54 then (bif Nat.blt n 52 then sp51 else (bif Nat.blt n 53 then sp52 else sp53)) else (bif Nat.blt n 55 then sp54 else (bif Nat.blt n 56 then sp55 else sp56))) else (bif Nat.blt n 60 then (bif Nat.blt n 58 then sp57 else (bif Nat.blt n 59 then sp58 else sp59)) else (bif Nat.blt n 61 then sp60 else (bif Nat.blt n 62 then sp61 else sp62)))) else (bif Nat.blt n 69 then (bif Nat.blt n 66 then (bif Nat.blt n 64 then sp63 else (bif Nat.blt n 65 then sp64 else sp65)) else (bif Nat.blt n 67 then sp66 else (bif Nat.blt n 68 then sp67 else sp68))) else (bif Nat.blt n 72 then (bif Nat.blt n 70 then sp69 else (bif Nat.blt n 71 then sp70 else sp71)) else (bif Nat.blt n 74 then (bif Nat.blt n 73 then sp72 else sp73) else (bif Nat.blt n 75 then sp74 else sp75))))) else (bif Nat.blt n 89 then (bif Nat.blt n 82 then (bif Nat.blt n 79 then (bif Nat.blt n 77 then sp76 else (bif Nat.blt n 78 then sp77 else sp78)) else (bif Nat.blt n 80 then sp79 else (bif Nat.blt n 81 then sp80 else sp81))) else (bif Nat.blt n 85 then (bif Nat.blt n 83 then sp82 else (bif Nat.blt n 84 then sp83 else sp84)) else (bif Nat.blt n 87 then (bif Nat.blt n 86 then sp85 else sp86) else (bif Nat.blt n 88 then sp87 else sp88)))) else (bif Nat.blt n 95 then (bif Nat.blt n 92 then (bif Nat.blt n 90 then sp89 else (bif Nat.blt n 91 then sp90 else sp91)) else (bif Nat.blt n 93 then sp92 else (bif Nat.blt n 94 then sp93 else sp94))) else (bif Nat.blt n 98 then (bif Nat.blt n 96 then sp95 else (bif Nat.blt n 97 then sp96 else sp97)) else (bif Nat.blt n 100 then (bif Nat.blt n 99 then sp98 else sp99) else (bif Nat.blt n 101 then sp100 else sp101))))))) else (bif Nat.blt n 153 then (bif Nat.blt n 127 then (bif Nat.blt n 114 then (bif Nat.blt n 108 then (bif Nat.blt n 105 then (bif Nat.blt n 103 then sp102 else (bif Nat.blt n 104 then sp103 else sp104)) else (bif Nat.blt n 106 then sp105 else (bif Nat.blt n 107 then sp106 else sp107))) else (bif Nat.blt n 111 then (bif Nat.blt n 109 then sp108 else (bif Nat.blt n 110 then sp109 else sp110)) else (bif Nat.blt n 112 then sp111 else (bif Nat.blt n 113 then sp112 else sp113)))) else (bif Nat.blt n 120 then (bif Nat.blt n 117 then (bif Nat.blt n 115 then sp114 else (bif Nat.blt n 116 then sp115 else sp116)) else (bif Nat.blt n 118 then sp117 else (bif Nat.blt n 119 then sp118 else sp119))) else (bif Nat.blt n 123 then (bif Nat.blt n 121 then sp120 else (bif Nat.blt n 122 then sp121 else sp122)) else (bif Nat.blt n 125 then (bif Nat.blt n 124 then sp123 else sp124) else (bif Nat.blt n 126 then sp125 else sp126))))) else (bif Nat.blt n 140 then (bif Nat.blt n 133 then (bif Nat.blt n 130 then (bif Nat.blt n 128 then sp127 else (bif Nat.blt n 129 then sp128 else sp129)) else (bif Nat.blt n 131 then sp130 else (bif Nat.blt n 132 then sp131 else sp132))) else (bif Nat.blt n 136 then (bif Nat.blt n 134 then sp133 else (bif Nat.blt n 135 then sp134 else sp135)) else (bif Nat.blt n 138 then (bif Nat.blt n 137 then sp136 else sp137) else (bif Nat.blt n 139 then sp138 else sp139)))) else (bif Nat.blt n 146 then (bif Nat.blt n 143 then (bif Nat.blt n 141 then sp140 else (bif Nat.blt n 142 then sp141 else sp142)) else (bif Nat.blt n 144 then sp143 else (bif Nat.blt n 145 then sp144 else sp145))) else (bif Nat.blt n 149 then (bif Nat.blt n 147 then sp146 else (bif Nat.blt n 148 then sp147 else sp148)) else (bif Nat.blt n 151 then (bif Nat.blt n 150 then sp149 else sp150) else (bif Nat.blt n 152 then sp151 else sp152)))))) else (bif Nat.blt n 179 then (bif Nat.blt n 166 then (bif Nat.blt n 159 then (bif Nat.blt n 156 then (bif Nat.blt n 154 then sp153 else (bif Nat.blt n 155 then sp154 else sp155)) else (bif Nat.blt n 157 then sp156 else (bif Nat.blt n 158 then sp157 else sp158))) else (bif Nat.blt n 162 then (bif Nat.blt n 160 then sp159 else (bif Nat.blt n 161 then sp160 else sp161)) else (bif Nat.blt n 164 then (bif Nat.blt n 163 then sp162 else sp163) else (bif Nat.blt n 165 then sp164 else sp165)))) else (bif Nat.blt n 172 then (bif Nat.blt n 169 then (bif Nat.blt n 167 then sp166 else (bif Nat.blt n 168 then sp167 else sp168)) else (bif Nat.blt n 170 then sp169 else (bif Nat.blt n 171 then sp170 else sp171))) else (bif Nat.blt n 175 then (bif Nat.blt n 173 then sp172 else (bif Nat.blt n 174 then sp173 else sp174)) else (bif Nat.blt n 177 then (bif Nat.blt n 176 then sp175 else sp176) else (bif Nat.blt n 178 then sp177 else sp178))))) else (bif Nat.blt n 192 then (bif Nat.blt n 185 then (bif Nat.blt n 182 then (bif Nat.blt n 180 then sp179 else (bif Nat.blt n 181 then sp180 else sp181)) else (bif Nat.blt n 183 then sp182 else (bif Nat.blt n 184 then sp183 else sp184))) else (bif Nat.blt n 188 then (bif Nat.blt n 186 then sp185 else (bif Nat.blt n 187 then sp186 else sp187)) else (bif Nat.blt n 190 then (bif Nat.blt n 189 then sp188 else sp189) else (bif Nat.blt n 191 then sp190 else sp191)))) else (bif Nat.blt n 198 then (bif Nat.blt n 195 then (bif Nat.blt n 193 then sp192 else (bif Nat.blt n 194 then sp193 else sp194)) else (bif Nat.blt n 196 then sp195 else (bif Nat.blt n 197 then sp196 else sp197))) else (bif Nat.blt n 201 then (bif Nat.blt n 199 then sp198 else (bif Nat.blt n 200 then sp199 else sp200)) else (bif Nat.blt n 203 then (bif Nat.blt n 202 then sp201 else sp202) else (bif Nat.blt n 204 then sp203 else sp204)))))))) else (bif Nat.blt n 307 then (bif Nat.blt n 256 then (bif Nat.blt n 230 then (bif Nat.blt n 217 then (bif Nat.blt n 211 then (bif Nat.blt n 208 then (bif Nat.blt n 206 then sp205 else (bif Nat.blt n 207 then sp206 else sp207)) else (bif Nat.blt n 209 then sp208 else (bif Nat.blt n 210 then sp209 else sp210))) else (bif Nat.blt n 214 then (bif Nat.blt n 212 then sp211 else (bif Nat.blt n 213 then sp212 else sp213)) else (bif Nat.blt n 215 then sp214 else (bif Nat.blt n 216 then sp215 else sp216)))) else (bif Nat.blt n 223 then (bif Nat.blt n 220 then (bif Nat.blt n 218 then sp217 else (bif Nat.blt n 219 then sp218 else sp219)) else (bif Nat.blt n 221 then sp220 else (bif Nat.blt n 222 then sp221 else sp222))) else (bif Nat.blt n 226 then (bif Nat.blt n 224 then sp223 else (bif Nat.blt n 225 then sp224 else sp225)) else (bif Nat.blt n 228 then (bif Nat.blt n 227 then sp226 else sp227) else (bif Nat.blt n 229 then sp228 else sp229))))) else (bif Nat.blt n 243 then (bif Nat.blt n 236 then (bif Nat.blt n 233 then (bif Nat.blt n 231 then sp230 else (bif Nat.blt n 232 then sp231 else sp232)) else (bif Nat.blt n 234 then sp233 else (bif Nat.blt n 235 then sp234 else sp235))) else (bif Nat.blt n 239 then (bif Nat.blt n 237 then sp236 else (bif Nat.blt n 238 then sp237 else sp238)) else (bif Nat.blt n 241 then (bif Nat.blt n 240 then sp239 else sp240) else (bif Nat.blt n 242 then sp241 else sp242)))) else (bif Nat.blt n 249 then (bif Nat.blt n 246 then (bif Nat.blt n 244 then sp243 else (bif Nat.blt n 245 then sp244 else sp245)) else (bif Nat.blt n 247 then sp246 else (bif Nat.blt n 248 then sp247 else sp248))) else (bif Nat.blt n 252 then (bif Nat.blt n 250 then sp249 else (bif Nat.blt n 251 then sp250 else sp251)) else (bif Nat.blt n 254 then (bif Nat.blt n 253 then sp252 else sp253) else (bif Nat.blt n 255 then sp254 else sp255)))))) else (bif Nat.blt n 281 then (bif Nat.blt n 268 then (bif Nat.blt n 262 then (bif Nat.blt n 259 then (bif Nat.blt n 257 then sp256 else (bif Nat.blt n 258 then sp257 else sp258)) else (bif Nat.blt n 260 then sp259 else (bif Nat.blt n 261 then sp260 else sp261))) else (bif Nat.blt n 265 then (bif Nat.blt n 263 then sp262 else (bif Nat.blt n 264 then sp263 else sp264)) else (bif Nat.blt n 266 then sp265 else (bif Nat.blt n 267 then sp266 else sp267)))) else (bif Nat.blt n 274 then (bif Nat.blt n 271 then (bif Nat.blt n 269 then sp268 else (bif Nat.blt n 270 then sp269 else sp270)) else (bif Nat.blt n 272 then sp271 else (bif Nat.blt n 273 then sp272 else sp273))) else (bif Nat.blt n 277 then (bif Nat.blt n 275 then sp274 else (bif Nat.blt n 276 then sp275 else sp276)) else (bif Nat.blt n 279 then (bif Nat.blt n 278 then sp277 else sp278) else (bif Nat.blt n 280 then sp279 else sp280))))) else (bif Nat.blt n 294 then (bif Nat.blt n 287 then (bif Nat.blt n 284 then (bif Nat.blt n 282 then sp281 else (bif Nat.blt n 283 then sp282 else sp283)) else (bif Nat.blt n 285 then sp284 else (bif Nat.blt n 286 then sp285 else sp286))) else (bif Nat.blt n 290 then (bif Nat.blt n 288 then sp287 else (bif Nat.blt n 289 then sp288 else sp289)) else (bif Nat.blt n 292 then (bif Nat.blt n 291 then sp290 else sp291) else (bif Nat.blt n 293 then sp292 else sp293)))) else (bif Nat.blt n 300 then (bif Nat.blt n 297 then (bif Nat.blt n 295 then sp294 else (bif Nat.blt n 296 then sp295 else sp296)) else (bif Nat.blt n 298 then sp297 else (bif Nat.blt n 299 then sp298 else sp299))) else (bif Nat.blt n 303 then (bif Nat.blt n 301 then sp300 else (bif Nat.blt n 302 then sp301 else sp302)) else (bif Nat.blt n 305 then (bif Nat.blt n 304 then sp303 else sp304) else (bif Nat.blt n 306 then sp305 else sp306))))))) else (bif Nat.blt n 358 then (bif Nat.blt n 332 then (bif Nat.blt n 319 then (bif Nat.blt n 313 then (bif Nat.blt n 310 then (bif Nat.blt n 308 then sp307 else (bif Nat.blt n 309 then sp308 else sp309)) else (bif Nat.blt n 311 then sp310 else (bif Nat.blt n 312 then sp311 else sp312))) else (bif Nat.blt n 316 then (bif Nat.blt n 314 then sp313 else (bif Nat.blt n 315 then sp314 else sp315)) else (bif Nat.blt n 317 then sp316 else (bif Nat.blt n 318 then sp317 else sp318)))) else (bif Nat.blt n 325 then (bif Nat.blt n 322 then (bif Nat.blt n 320 then sp319 else (bif Nat.blt n 321 then sp320 else sp321)) else (bif Nat.blt n 323 then sp322 else (bif Nat.blt n 324 then sp323 else sp324))) else (bif Nat.blt n 328 then (bif Nat.blt n 326 then sp325 else (bif Nat.blt n 327 then sp326 else sp327)) else (bif Nat.blt n 330 then (bif Nat.blt n 329 then sp328 else sp329) else (bif Nat.blt n 331 then sp330 else sp331))))) else (bif Nat.blt n 345 then (bif Nat.blt n 338 then (bif Nat.blt n 335 then (bif Nat.blt n 333 then sp332 else (bif Nat.blt n 334 then sp333 else sp334)) else (bif Nat.blt n 336 then sp335 else (bif Nat.blt n 337 then sp336 else sp337))) else (bif Nat.blt n 341 then (bif Nat.blt n 339 then sp338 else (bif Nat.blt n 340 then sp339 else sp340)) else (bif Nat.blt n 343 then (bif Nat.blt n 342 then sp341 else sp342) else (bif Nat.blt n 344 then sp343 else sp344)))) else (bif Nat.blt n 351 then (bif Nat.blt n 348 then (bif Nat.blt n 346 then sp345 else (bif Nat.blt n 347 then sp346 else sp347)) else (bif Nat.blt n 349 then sp348 else (bif Nat.blt n 350 then sp349 else sp350))) else (bif Nat.blt n 354 then (bif Nat.blt n 352 then sp351 else (bif Nat.blt n 353 then sp352 else sp353)) else (bif Nat.blt n 356 then (bif Nat.blt n 355 then sp354 else sp355) else (bif Nat.blt n 357 then sp356 else sp357)))))) else (bif Nat.blt n 384 then (bif Nat.blt n 371 then (bif Nat.blt n 364 then (bif Nat.blt n 361 then (bif Nat.blt n 359 then sp358 else (bif Nat.blt n 360 then sp359 else sp360)) else (bif Nat.blt n 362 then sp361 else (bif Nat.blt n 363 then sp362 else sp363))) else (bif Nat.blt n 367 then (bif Nat.blt n 365 then sp364 else (bif Nat.blt n 366 then sp365 else sp366)) else (bif Nat.blt n 369 then (bif Nat.blt n 368 then sp367 else sp368) else (bif Nat.blt n 370 then sp369 else sp370)))) else (bif Nat.blt n 377 then (bif Nat.blt n 374 then (bif Nat.blt n 372 then sp371 else (bif Nat.blt n 373 then sp372 else sp373)) else (bif Nat.blt n 375 then sp374 else (bif Nat.blt n 376 then sp375 else sp376))) else (bif Nat.blt n 380 then (bif Nat.blt n 378 then sp377 else (bif Nat.blt n 379 then sp378 else sp379)) else (bif Nat.blt n 382 then (bif Nat.blt n 381 then sp380 else sp381) else (bif Nat.blt n 383 then sp382 else sp383))))) else (bif Nat.blt n 397 then (bif Nat.blt n 390 then (bif Nat.blt n 387 then (bif Nat.blt n 385 then sp384 else (bif Nat.blt n 386 then sp385 else sp386)) else (bif Nat.blt n 388 then sp387 else (bif Nat.blt n 389 then sp388 else sp389))) else (bif Nat.blt n 393 then (bif Nat.blt n 391 then sp390 else (bif Nat.blt n 392 then sp391 else sp392)) else (bif Nat.blt n 395 then (bif Nat.blt n 394 then sp393 else sp394) else (bif Nat.blt n 396 then sp395 else sp396)))) else (bif Nat.blt n 403 then (bif Nat.blt n 400 then (bif Nat.blt n 398 then sp397 else (bif Nat.blt n 399 then sp398 else sp399)) else (bif Nat.blt n 401 then sp400 else (bif Nat.blt n 402 then sp401 else sp402))) else (bif Nat.blt n 406 then (bif Nat.blt n 404 then sp403 else (bif Nat.blt n 405 then sp404 else sp405)) else (bif Nat.blt n 408 then (bif Nat.blt n 407 then sp406 else sp407) else (bif Nat.blt n 409 then sp408 else sp409)))))))))
def tcT : Tc := (rcT, spT, 2628)
