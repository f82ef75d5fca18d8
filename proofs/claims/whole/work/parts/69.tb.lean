/-! the law (by wip/tools/gen_law.py) -/
section TA1
variable {xs : Nat → Int32} {L N K i d mc ms c s : Nat} {D : am_D} {Q : am_O → am_AH → Prop}
theorem r287_488 : am_at 287 488 = some (.aload_n 1, 1, [1]) := by decide +kernel
theorem r287_489 : am_at 287 489 = some (.aload_n 0, 1, [0]) := by decide +kernel
theorem r287_490 : am_at 287 490 = some (.iload 5, 2, [5]) := by decide +kernel
theorem r287_492 : am_at 287 492 = some (.iconst (1), 1, []) := by decide +kernel
theorem r287_493 : am_at 287 493 = some (.iadd, 1, []) := by decide +kernel
theorem r287_494 : am_at 287 494 = some (.iaload, 1, []) := by decide +kernel
theorem r287_495 : am_at 287 495 = some (.aload_n 3, 1, [3]) := by decide +kernel
theorem r287_496 : am_at 287 496 = some (.invokestatic 130, 3, [265, 3, 945, 0]) := by decide +kernel
theorem r287_499 : am_at 287 499 = some (.istore 6, 2, [6]) := by decide +kernel
theorem r287_501 : am_at 287 501 = some (.aload_n 2, 1, [2]) := by decide +kernel
theorem r287_502 : am_at 287 502 = some (.aload_n 0, 1, [0]) := by decide +kernel
theorem r287_503 : am_at 287 503 = some (.iload 5, 2, [5]) := by decide +kernel
theorem r287_505 : am_at 287 505 = some (.iconst (1), 1, []) := by decide +kernel
theorem r287_506 : am_at 287 506 = some (.iadd, 1, []) := by decide +kernel
theorem r287_507 : am_at 287 507 = some (.iaload, 1, []) := by decide +kernel
theorem r287_508 : am_at 287 508 = some (.invokevirtual 132, 3, [85, 2, 1421, 0]) := by decide +kernel
theorem r287_511 : am_at 287 511 = some (.istore 7, 2, [7]) := by decide +kernel
theorem r287_513 : am_at 287 513 = some (.aload_n 2, 1, [2]) := by decide +kernel
theorem r287_514 : am_at 287 514 = some (.invokevirtual 112, 3, [45, 1, 1294, 0]) := by decide +kernel
theorem r287_517 : am_at 287 517 = some (.iload 6, 2, [6]) := by decide +kernel
theorem r287_519 : am_at 287 519 = some (.if_icmp .eq (5), 3, [524]) := by decide +kernel
theorem r287_522 : am_at 287 522 = some (.iconst (0), 1, []) := by decide +kernel
theorem r287_523 : am_at 287 523 = some (.ireturn, 1, []) := by decide +kernel
theorem r287_524 : am_at 287 524 = some (.iload 6, 2, [6]) := by decide +kernel
theorem r287_526 : am_at 287 526 = some (.ifCond .ne (15), 3, [541]) := by decide +kernel
theorem r287_529 : am_at 287 529 = some (.aload_n 3, 1, [3]) := by decide +kernel
theorem r287_530 : am_at 287 530 = some (.iconst (0), 1, []) := by decide +kernel
theorem r287_531 : am_at 287 531 = some (.laload, 1, []) := by decide +kernel
theorem r287_532 : am_at 287 532 = some (.iload 7, 2, [7]) := by decide +kernel
theorem r287_534 : am_at 287 534 = some (.i2l, 1, []) := by decide +kernel
theorem r287_535 : am_at 287 535 = some (.lcmp, 1, []) := by decide +kernel
theorem r287_536 : am_at 287 536 = some (.ifCond .eq (5), 3, [541]) := by decide +kernel
theorem r287_539 : am_at 287 539 = some (.iconst (0), 1, []) := by decide +kernel
theorem r287_540 : am_at 287 540 = some (.ireturn, 1, []) := by decide +kernel
theorem r287_541 : am_at 287 541 = some (.goto (1415), 3, [1956]) := by decide +kernel
theorem r287_544 : am_at 287 544 = some (.aload_n 1, 1, [1]) := by decide +kernel
theorem r287_545 : am_at 287 545 = some (.aload_n 0, 1, [0]) := by decide +kernel
theorem r287_546 : am_at 287 546 = some (.iload 5, 2, [5]) := by decide +kernel
theorem r287_548 : am_at 287 548 = some (.iconst (1), 1, []) := by decide +kernel
theorem r287_549 : am_at 287 549 = some (.iadd, 1, []) := by decide +kernel
theorem r287_550 : am_at 287 550 = some (.iaload, 1, []) := by decide +kernel
theorem r287_551 : am_at 287 551 = some (.aload_n 3, 1, [3]) := by decide +kernel
theorem r287_552 : am_at 287 552 = some (.invokestatic 133, 3, [266, 3, 965, 0]) := by decide +kernel
theorem r287_555 : am_at 287 555 = some (.istore 6, 2, [6]) := by decide +kernel
theorem r287_557 : am_at 287 557 = some (.aload_n 2, 1, [2]) := by decide +kernel
theorem r287_558 : am_at 287 558 = some (.aload_n 0, 1, [0]) := by decide +kernel
theorem r287_559 : am_at 287 559 = some (.iload 5, 2, [5]) := by decide +kernel
theorem r287_561 : am_at 287 561 = some (.iconst (1), 1, []) := by decide +kernel
theorem r287_562 : am_at 287 562 = some (.iadd, 1, []) := by decide +kernel
theorem r287_563 : am_at 287 563 = some (.iaload, 1, []) := by decide +kernel
theorem r287_564 : am_at 287 564 = some (.invokevirtual 135, 3, [86, 2, 1441, 0]) := by decide +kernel
theorem r287_567 : am_at 287 567 = some (.istore 7, 2, [7]) := by decide +kernel
theorem r287_569 : am_at 287 569 = some (.aload_n 2, 1, [2]) := by decide +kernel
theorem r287_570 : am_at 287 570 = some (.invokevirtual 112, 3, [45, 1, 1294, 0]) := by decide +kernel
theorem r287_573 : am_at 287 573 = some (.iload 6, 2, [6]) := by decide +kernel
theorem r287_575 : am_at 287 575 = some (.if_icmp .eq (5), 3, [580]) := by decide +kernel
theorem r287_578 : am_at 287 578 = some (.iconst (0), 1, []) := by decide +kernel
theorem r287_579 : am_at 287 579 = some (.ireturn, 1, []) := by decide +kernel
theorem r287_580 : am_at 287 580 = some (.iload 6, 2, [6]) := by decide +kernel
theorem r287_582 : am_at 287 582 = some (.ifCond .ne (15), 3, [597]) := by decide +kernel
theorem r287_585 : am_at 287 585 = some (.aload_n 3, 1, [3]) := by decide +kernel
theorem r287_586 : am_at 287 586 = some (.iconst (0), 1, []) := by decide +kernel
theorem r287_587 : am_at 287 587 = some (.laload, 1, []) := by decide +kernel
theorem r287_588 : am_at 287 588 = some (.iload 7, 2, [7]) := by decide +kernel
theorem r287_590 : am_at 287 590 = some (.i2l, 1, []) := by decide +kernel
theorem r287_591 : am_at 287 591 = some (.lcmp, 1, []) := by decide +kernel
theorem r287_592 : am_at 287 592 = some (.ifCond .eq (5), 3, [597]) := by decide +kernel
theorem r287_595 : am_at 287 595 = some (.iconst (0), 1, []) := by decide +kernel
theorem r287_596 : am_at 287 596 = some (.ireturn, 1, []) := by decide +kernel
theorem r287_597 : am_at 287 597 = some (.goto (1359), 3, [1956]) := by decide +kernel
theorem r287_600 : am_at 287 600 = some (.aload_n 1, 1, [1]) := by decide +kernel
theorem r287_601 : am_at 287 601 = some (.aload_n 0, 1, [0]) := by decide +kernel
theorem r287_602 : am_at 287 602 = some (.iload 5, 2, [5]) := by decide +kernel
theorem r287_604 : am_at 287 604 = some (.iconst (1), 1, []) := by decide +kernel
theorem r287_605 : am_at 287 605 = some (.iadd, 1, []) := by decide +kernel
theorem r287_606 : am_at 287 606 = some (.iaload, 1, []) := by decide +kernel
theorem r287_607 : am_at 287 607 = some (.aload_n 3, 1, [3]) := by decide +kernel
theorem r287_608 : am_at 287 608 = some (.invokestatic 136, 3, [267, 3, 981, 0]) := by decide +kernel
theorem r287_611 : am_at 287 611 = some (.istore 6, 2, [6]) := by decide +kernel
theorem r287_613 : am_at 287 613 = some (.aload_n 2, 1, [2]) := by decide +kernel
theorem r287_614 : am_at 287 614 = some (.aload_n 0, 1, [0]) := by decide +kernel
theorem r287_615 : am_at 287 615 = some (.iload 5, 2, [5]) := by decide +kernel
theorem r287_617 : am_at 287 617 = some (.iconst (1), 1, []) := by decide +kernel
theorem r287_618 : am_at 287 618 = some (.iadd, 1, []) := by decide +kernel
theorem r287_619 : am_at 287 619 = some (.iaload, 1, []) := by decide +kernel
theorem r287_620 : am_at 287 620 = some (.invokevirtual 138, 3, [87, 2, 1449, 0]) := by decide +kernel
theorem r287_623 : am_at 287 623 = some (.istore 7, 2, [7]) := by decide +kernel
theorem r287_625 : am_at 287 625 = some (.aload_n 2, 1, [2]) := by decide +kernel
theorem r287_626 : am_at 287 626 = some (.invokevirtual 112, 3, [45, 1, 1294, 0]) := by decide +kernel
theorem r287_629 : am_at 287 629 = some (.iload 6, 2, [6]) := by decide +kernel
theorem r287_631 : am_at 287 631 = some (.if_icmp .eq (5), 3, [636]) := by decide +kernel
theorem r287_634 : am_at 287 634 = some (.iconst (0), 1, []) := by decide +kernel
theorem r287_635 : am_at 287 635 = some (.ireturn, 1, []) := by decide +kernel
theorem r287_636 : am_at 287 636 = some (.iload 6, 2, [6]) := by decide +kernel
theorem r287_638 : am_at 287 638 = some (.ifCond .ne (15), 3, [653]) := by decide +kernel
theorem r287_641 : am_at 287 641 = some (.aload_n 3, 1, [3]) := by decide +kernel
theorem r287_642 : am_at 287 642 = some (.iconst (0), 1, []) := by decide +kernel
theorem r287_643 : am_at 287 643 = some (.laload, 1, []) := by decide +kernel
theorem r287_644 : am_at 287 644 = some (.iload 7, 2, [7]) := by decide +kernel
theorem r287_646 : am_at 287 646 = some (.i2l, 1, []) := by decide +kernel
theorem r287_647 : am_at 287 647 = some (.lcmp, 1, []) := by decide +kernel
theorem r287_648 : am_at 287 648 = some (.ifCond .eq (5), 3, [653]) := by decide +kernel
theorem r287_651 : am_at 287 651 = some (.iconst (0), 1, []) := by decide +kernel
theorem r287_652 : am_at 287 652 = some (.ireturn, 1, []) := by decide +kernel
theorem r287_653 : am_at 287 653 = some (.goto (1303), 3, [1956]) := by decide +kernel
theorem r287_656 : am_at 287 656 = some (.aload_n 1, 1, [1]) := by decide +kernel
theorem r287_657 : am_at 287 657 = some (.aload_n 0, 1, [0]) := by decide +kernel
theorem r287_658 : am_at 287 658 = some (.iload 5, 2, [5]) := by decide +kernel
theorem r287_660 : am_at 287 660 = some (.iconst (1), 1, []) := by decide +kernel
theorem r287_661 : am_at 287 661 = some (.iadd, 1, []) := by decide +kernel
theorem r287_662 : am_at 287 662 = some (.iaload, 1, []) := by decide +kernel
theorem r287_663 : am_at 287 663 = some (.aload_n 3, 1, [3]) := by decide +kernel
theorem r287_664 : am_at 287 664 = some (.invokestatic 139, 3, [268, 3, 994, 0]) := by decide +kernel
theorem r287_667 : am_at 287 667 = some (.istore 6, 2, [6]) := by decide +kernel
theorem r287_669 : am_at 287 669 = some (.aload_n 2, 1, [2]) := by decide +kernel
theorem r287_670 : am_at 287 670 = some (.aload_n 0, 1, [0]) := by decide +kernel
theorem r287_671 : am_at 287 671 = some (.iload 5, 2, [5]) := by decide +kernel
theorem r287_673 : am_at 287 673 = some (.iconst (1), 1, []) := by decide +kernel
theorem r287_674 : am_at 287 674 = some (.iadd, 1, []) := by decide +kernel
theorem r287_675 : am_at 287 675 = some (.iaload, 1, []) := by decide +kernel
theorem r287_676 : am_at 287 676 = some (.invokevirtual 141, 3, [88, 2, 1457, 0]) := by decide +kernel
theorem r287_679 : am_at 287 679 = some (.istore 7, 2, [7]) := by decide +kernel
theorem r287_681 : am_at 287 681 = some (.aload_n 2, 1, [2]) := by decide +kernel
theorem r287_682 : am_at 287 682 = some (.invokevirtual 112, 3, [45, 1, 1294, 0]) := by decide +kernel
theorem r287_685 : am_at 287 685 = some (.iload 6, 2, [6]) := by decide +kernel
theorem r287_687 : am_at 287 687 = some (.if_icmp .eq (5), 3, [692]) := by decide +kernel
theorem r287_690 : am_at 287 690 = some (.iconst (0), 1, []) := by decide +kernel
theorem r287_691 : am_at 287 691 = some (.ireturn, 1, []) := by decide +kernel
theorem r287_692 : am_at 287 692 = some (.iload 6, 2, [6]) := by decide +kernel
theorem r287_694 : am_at 287 694 = some (.ifCond .ne (15), 3, [709]) := by decide +kernel
theorem r287_697 : am_at 287 697 = some (.aload_n 3, 1, [3]) := by decide +kernel
theorem r287_698 : am_at 287 698 = some (.iconst (0), 1, []) := by decide +kernel
theorem r287_699 : am_at 287 699 = some (.laload, 1, []) := by decide +kernel
theorem r287_700 : am_at 287 700 = some (.iload 7, 2, [7]) := by decide +kernel
theorem r287_702 : am_at 287 702 = some (.i2l, 1, []) := by decide +kernel
theorem r287_703 : am_at 287 703 = some (.lcmp, 1, []) := by decide +kernel
theorem r287_704 : am_at 287 704 = some (.ifCond .eq (5), 3, [709]) := by decide +kernel
theorem r287_707 : am_at 287 707 = some (.iconst (0), 1, []) := by decide +kernel
theorem r287_708 : am_at 287 708 = some (.ireturn, 1, []) := by decide +kernel
theorem r287_709 : am_at 287 709 = some (.goto (1247), 3, [1956]) := by decide +kernel
theorem r287_712 : am_at 287 712 = some (.aload_n 1, 1, [1]) := by decide +kernel
theorem r287_713 : am_at 287 713 = some (.aload_n 0, 1, [0]) := by decide +kernel
theorem r287_714 : am_at 287 714 = some (.iload 5, 2, [5]) := by decide +kernel
theorem r287_716 : am_at 287 716 = some (.iconst (1), 1, []) := by decide +kernel
theorem r287_717 : am_at 287 717 = some (.iadd, 1, []) := by decide +kernel
theorem r287_718 : am_at 287 718 = some (.iaload, 1, []) := by decide +kernel
theorem r287_719 : am_at 287 719 = some (.aload_n 3, 1, [3]) := by decide +kernel
theorem r287_720 : am_at 287 720 = some (.invokestatic 142, 3, [269, 3, 1002, 0]) := by decide +kernel
theorem r287_723 : am_at 287 723 = some (.istore 6, 2, [6]) := by decide +kernel
theorem r287_725 : am_at 287 725 = some (.aload_n 2, 1, [2]) := by decide +kernel
theorem r287_726 : am_at 287 726 = some (.aload_n 0, 1, [0]) := by decide +kernel
theorem r287_727 : am_at 287 727 = some (.iload 5, 2, [5]) := by decide +kernel
theorem r287_729 : am_at 287 729 = some (.iconst (1), 1, []) := by decide +kernel
theorem r287_730 : am_at 287 730 = some (.iadd, 1, []) := by decide +kernel
theorem r287_731 : am_at 287 731 = some (.iaload, 1, []) := by decide +kernel
theorem r287_732 : am_at 287 732 = some (.invokevirtual 144, 3, [89, 2, 1461, 0]) := by decide +kernel
theorem r287_735 : am_at 287 735 = some (.istore 7, 2, [7]) := by decide +kernel
theorem r287_737 : am_at 287 737 = some (.aload_n 2, 1, [2]) := by decide +kernel
theorem r287_738 : am_at 287 738 = some (.invokevirtual 112, 3, [45, 1, 1294, 0]) := by decide +kernel
theorem r287_741 : am_at 287 741 = some (.iload 6, 2, [6]) := by decide +kernel
theorem r287_743 : am_at 287 743 = some (.if_icmp .eq (5), 3, [748]) := by decide +kernel
theorem r287_746 : am_at 287 746 = some (.iconst (0), 1, []) := by decide +kernel
theorem r287_747 : am_at 287 747 = some (.ireturn, 1, []) := by decide +kernel
theorem r287_748 : am_at 287 748 = some (.iload 6, 2, [6]) := by decide +kernel
theorem r287_750 : am_at 287 750 = some (.ifCond .ne (15), 3, [765]) := by decide +kernel
theorem r287_753 : am_at 287 753 = some (.aload_n 3, 1, [3]) := by decide +kernel
theorem r287_754 : am_at 287 754 = some (.iconst (0), 1, []) := by decide +kernel
theorem r287_755 : am_at 287 755 = some (.laload, 1, []) := by decide +kernel
theorem r287_756 : am_at 287 756 = some (.iload 7, 2, [7]) := by decide +kernel
theorem r287_758 : am_at 287 758 = some (.i2l, 1, []) := by decide +kernel
theorem r287_759 : am_at 287 759 = some (.lcmp, 1, []) := by decide +kernel
theorem r287_760 : am_at 287 760 = some (.ifCond .eq (5), 3, [765]) := by decide +kernel
theorem r287_763 : am_at 287 763 = some (.iconst (0), 1, []) := by decide +kernel
theorem r287_764 : am_at 287 764 = some (.ireturn, 1, []) := by decide +kernel
theorem r287_765 : am_at 287 765 = some (.goto (1191), 3, [1956]) := by decide +kernel
theorem r287_768 : am_at 287 768 = some (.aload_n 1, 1, [1]) := by decide +kernel
theorem r287_769 : am_at 287 769 = some (.invokevirtual 145, 3, [11, 1, 357, 0]) := by decide +kernel
theorem r287_772 : am_at 287 772 = some (.aload_n 2, 1, [2]) := by decide +kernel
theorem r287_773 : am_at 287 773 = some (.invokevirtual 148, 3, [90, 1, 1465, 0]) := by decide +kernel
theorem r287_776 : am_at 287 776 = some (.if_icmp .eq (1180), 3, [1956]) := by decide +kernel
theorem r287_779 : am_at 287 779 = some (.iconst (0), 1, []) := by decide +kernel
theorem r287_780 : am_at 287 780 = some (.ireturn, 1, []) := by decide +kernel
theorem law_5 (hi : i + 5 ≤ L) (hL : L ≤ 2560) (hN : 2000 ≤ N) (hI : q_I D) (hc : c + 1 ≤ mc) (hs : s + 6 ≤ ms) (hd : 57 ≤ d) (nx : ∀ D' c' s', q_I D' → c' ≤ c + 1 → s' ≤ s + 6 → am_X xs L 287 d mc ms 1956 [.ref 1000002, .ref 0, .ref 106, .ref 124, .ref 125, .int (Int32.ofNat i), am_dead, am_dead, am_dead, am_dead] [] (am_mk D') c' s' Q) : am_X xs L 287 d mc ms 488 [.ref 1000002, .ref 0, .ref 106, .ref 124, .ref 125, .int (Int32.ofNat i), am_dead, am_dead, am_dead, am_dead] [] (am_mk D) c s Q := by
  obtain ⟨r, D1, b, D2, h1, h2, h3, h4, h5⟩ := g_pass hN hI (xs (i + 1))
  refine x_ld (v := .ref 0) r287_488 rfl rfl rfl ?_
  refine x_ld (v := .ref 1000002) r287_489 rfl rfl rfl ?_
  refine x_ld (v := .int (Int32.ofNat i)) r287_490 rfl rfl rfl ?_
  refine x_ic (v := 1) r287_492 rfl rfl ?_
  refine x_ar r287_493 rfl trivial rfl ?_
  refine am_topI (v := Int32.ofNat (i + 1)) (q_add i 1).symm ?_
  refine y_ialX (e := (i + 1)) r287_494 (q_vx hL (by omega)) (q_tn (by omega)) rfl ?_
  refine x_ld (v := .ref 124) r287_495 rfl rfl rfl ?_
  refine x_call1 (as := [.ref 0, .int (xs (i + 1)), .ref 124]) (rest := []) r287_496 rfl rfl rfl (by decide) (Nat.le_of_ble_eq_true rfl) (m265_ok h1) (Nat.le_trans (by decide) hd) hc hs rfl ?_
  refine x_sto (lc' := [.ref 1000002, .ref 0, .ref 106, .ref 124, .ref 125, .int (Int32.ofNat i), .int r, am_dead, am_dead, am_dead]) (st' := []) r287_499 rfl rfl rfl rfl ?_
  refine x_ld (v := .ref 106) r287_501 rfl rfl rfl ?_
  refine x_ld (v := .ref 1000002) r287_502 rfl rfl rfl ?_
  refine x_ld (v := .int (Int32.ofNat i)) r287_503 rfl rfl rfl ?_
  refine x_ic (v := 1) r287_505 rfl rfl ?_
  refine x_ar r287_506 rfl trivial rfl ?_
  refine am_topI (v := Int32.ofNat (i + 1)) (q_add i 1).symm ?_
  refine y_ialX (e := (i + 1)) r287_507 (q_vx hL (by omega)) (q_tn (by omega)) rfl ?_
  refine x_call1 (as := [.ref 106, .int (xs (i + 1))]) (rest := []) r287_508 rfl rfl rfl (by decide) (Nat.le_of_ble_eq_true rfl) (m85_ok h2) (Nat.le_trans (by decide) hd) hc hs rfl ?_
  refine x_sto (lc' := [.ref 1000002, .ref 0, .ref 106, .ref 124, .ref 125, .int (Int32.ofNat i), .int r, .int b, am_dead, am_dead]) (st' := []) r287_511 rfl rfl rfl rfl ?_
  refine x_ld (v := .ref 106) r287_513 rfl rfl rfl ?_
  refine x_call1 (as := [.ref 106]) (rest := []) r287_514 rfl rfl rfl (by decide) (Nat.le_of_ble_eq_true rfl) (m45_ok (r := D2.1 106 0) rfl) (Nat.le_trans (by decide) hd) hc hs rfl ?_
  refine x_ld (v := .int r) r287_517 rfl rfl rfl ?_
  refine x_iceqT r287_519 h3 ?_
  refine x_ld (v := .int r) r287_524 rfl rfl rfl ?_
  by_cases q : r = 0
  · refine x_ifneT r287_526 q rfl ?_
    refine x_ld (v := .ref 124) r287_529 rfl rfl rfl ?_
    refine x_ic (v := 0) r287_530 rfl rfl ?_
    refine y_lal (n := 1) (e := 0) r287_531 rfl (by decide) (by decide) rfl rfl ?_
    refine x_ld (v := .int b) r287_532 rfl rfl rfl ?_
    refine x_ar r287_534 rfl trivial rfl ?_
    refine x_ar r287_535 rfl trivial rfl ?_
    refine am_topI (v := 0) (by rw [h4 q, q_lgc]) ?_
    refine x_ifeqT r287_536 rfl ?_
    refine x_goto r287_541 ?_
    exact x_forget (lc0 := [.ref 1000002, .ref 0, .ref 106, .ref 124, .ref 125, .int (Int32.ofNat i), am_dead, am_dead, am_dead, am_dead]) ⟨Or.inl rfl, Or.inl rfl, Or.inl rfl, Or.inl rfl, Or.inl rfl, Or.inl rfl, Or.inr ⟨rfl, rfl⟩, Or.inr ⟨rfl, rfl⟩, Or.inl rfl, Or.inl rfl, trivial⟩ (nx D2 _ _ h5 (Nat.le_refl _) (Nat.le_refl _))
  · refine x_ifneF r287_526 q ?_
    refine x_goto r287_541 ?_
    exact x_forget (lc0 := [.ref 1000002, .ref 0, .ref 106, .ref 124, .ref 125, .int (Int32.ofNat i), am_dead, am_dead, am_dead, am_dead]) ⟨Or.inl rfl, Or.inl rfl, Or.inl rfl, Or.inl rfl, Or.inl rfl, Or.inl rfl, Or.inr ⟨rfl, rfl⟩, Or.inr ⟨rfl, rfl⟩, Or.inl rfl, Or.inl rfl, trivial⟩ (nx D2 _ _ h5 (Nat.le_refl _) (Nat.le_refl _))
theorem law_6 (hi : i + 5 ≤ L) (hL : L ≤ 2560) (hN : 2000 ≤ N) (hI : q_I D) (hc : c + 1 ≤ mc) (hs : s + 6 ≤ ms) (hd : 57 ≤ d) (nx : ∀ D' c' s', q_I D' → c' ≤ c + 1 → s' ≤ s + 6 → am_X xs L 287 d mc ms 1956 [.ref 1000002, .ref 0, .ref 106, .ref 124, .ref 125, .int (Int32.ofNat i), am_dead, am_dead, am_dead, am_dead] [] (am_mk D') c' s' Q) : am_X xs L 287 d mc ms 544 [.ref 1000002, .ref 0, .ref 106, .ref 124, .ref 125, .int (Int32.ofNat i), am_dead, am_dead, am_dead, am_dead] [] (am_mk D) c s Q := by
  obtain ⟨r, D1, b, D2, h1, h2, h3, h4, h5⟩ := g_clock hN hI (xs (i + 1))
  refine x_ld (v := .ref 0) r287_544 rfl rfl rfl ?_
  refine x_ld (v := .ref 1000002) r287_545 rfl rfl rfl ?_
  refine x_ld (v := .int (Int32.ofNat i)) r287_546 rfl rfl rfl ?_
  refine x_ic (v := 1) r287_548 rfl rfl ?_
  refine x_ar r287_549 rfl trivial rfl ?_
  refine am_topI (v := Int32.ofNat (i + 1)) (q_add i 1).symm ?_
  refine y_ialX (e := (i + 1)) r287_550 (q_vx hL (by omega)) (q_tn (by omega)) rfl ?_
  refine x_ld (v := .ref 124) r287_551 rfl rfl rfl ?_
  refine x_call1 (as := [.ref 0, .int (xs (i + 1)), .ref 124]) (rest := []) r287_552 rfl rfl rfl (by decide) (Nat.le_of_ble_eq_true rfl) (m266_ok h1) (Nat.le_trans (by decide) hd) hc hs rfl ?_
  refine x_sto (lc' := [.ref 1000002, .ref 0, .ref 106, .ref 124, .ref 125, .int (Int32.ofNat i), .int r, am_dead, am_dead, am_dead]) (st' := []) r287_555 rfl rfl rfl rfl ?_
  refine x_ld (v := .ref 106) r287_557 rfl rfl rfl ?_
  refine x_ld (v := .ref 1000002) r287_558 rfl rfl rfl ?_
  refine x_ld (v := .int (Int32.ofNat i)) r287_559 rfl rfl rfl ?_
  refine x_ic (v := 1) r287_561 rfl rfl ?_
  refine x_ar r287_562 rfl trivial rfl ?_
  refine am_topI (v := Int32.ofNat (i + 1)) (q_add i 1).symm ?_
  refine y_ialX (e := (i + 1)) r287_563 (q_vx hL (by omega)) (q_tn (by omega)) rfl ?_
  refine x_call1 (as := [.ref 106, .int (xs (i + 1))]) (rest := []) r287_564 rfl rfl rfl (by decide) (Nat.le_of_ble_eq_true rfl) (m86_ok h2) (Nat.le_trans (by decide) hd) hc hs rfl ?_
  refine x_sto (lc' := [.ref 1000002, .ref 0, .ref 106, .ref 124, .ref 125, .int (Int32.ofNat i), .int r, .int b, am_dead, am_dead]) (st' := []) r287_567 rfl rfl rfl rfl ?_
  refine x_ld (v := .ref 106) r287_569 rfl rfl rfl ?_
  refine x_call1 (as := [.ref 106]) (rest := []) r287_570 rfl rfl rfl (by decide) (Nat.le_of_ble_eq_true rfl) (m45_ok (r := D2.1 106 0) rfl) (Nat.le_trans (by decide) hd) hc hs rfl ?_
  refine x_ld (v := .int r) r287_573 rfl rfl rfl ?_
  refine x_iceqT r287_575 h3 ?_
  refine x_ld (v := .int r) r287_580 rfl rfl rfl ?_
  by_cases q : r = 0
  · refine x_ifneT r287_582 q rfl ?_
    refine x_ld (v := .ref 124) r287_585 rfl rfl rfl ?_
    refine x_ic (v := 0) r287_586 rfl rfl ?_
    refine y_lal (n := 1) (e := 0) r287_587 rfl (by decide) (by decide) rfl rfl ?_
    refine x_ld (v := .int b) r287_588 rfl rfl rfl ?_
    refine x_ar r287_590 rfl trivial rfl ?_
    refine x_ar r287_591 rfl trivial rfl ?_
    refine am_topI (v := 0) (by rw [h4 q, q_lgc]) ?_
    refine x_ifeqT r287_592 rfl ?_
    refine x_goto r287_597 ?_
    exact x_forget (lc0 := [.ref 1000002, .ref 0, .ref 106, .ref 124, .ref 125, .int (Int32.ofNat i), am_dead, am_dead, am_dead, am_dead]) ⟨Or.inl rfl, Or.inl rfl, Or.inl rfl, Or.inl rfl, Or.inl rfl, Or.inl rfl, Or.inr ⟨rfl, rfl⟩, Or.inr ⟨rfl, rfl⟩, Or.inl rfl, Or.inl rfl, trivial⟩ (nx D2 _ _ h5 (Nat.le_refl _) (Nat.le_refl _))
  · refine x_ifneF r287_582 q ?_
    refine x_goto r287_597 ?_
    exact x_forget (lc0 := [.ref 1000002, .ref 0, .ref 106, .ref 124, .ref 125, .int (Int32.ofNat i), am_dead, am_dead, am_dead, am_dead]) ⟨Or.inl rfl, Or.inl rfl, Or.inl rfl, Or.inl rfl, Or.inl rfl, Or.inl rfl, Or.inr ⟨rfl, rfl⟩, Or.inr ⟨rfl, rfl⟩, Or.inl rfl, Or.inl rfl, trivial⟩ (nx D2 _ _ h5 (Nat.le_refl _) (Nat.le_refl _))
theorem law_7 (hi : i + 5 ≤ L) (hL : L ≤ 2560) (hN : 2000 ≤ N) (hI : q_I D) (hc : c + 1 ≤ mc) (hs : s + 6 ≤ ms) (hd : 57 ≤ d) (nx : ∀ D' c' s', q_I D' → c' ≤ c + 1 → s' ≤ s + 6 → am_X xs L 287 d mc ms 1956 [.ref 1000002, .ref 0, .ref 106, .ref 124, .ref 125, .int (Int32.ofNat i), am_dead, am_dead, am_dead, am_dead] [] (am_mk D') c' s' Q) : am_X xs L 287 d mc ms 600 [.ref 1000002, .ref 0, .ref 106, .ref 124, .ref 125, .int (Int32.ofNat i), am_dead, am_dead, am_dead, am_dead] [] (am_mk D) c s Q := by
  obtain ⟨r, D1, b, D2, h1, h2, h3, h4, h5⟩ := g_tick hN hI (xs (i + 1))
  refine x_ld (v := .ref 0) r287_600 rfl rfl rfl ?_
  refine x_ld (v := .ref 1000002) r287_601 rfl rfl rfl ?_
  refine x_ld (v := .int (Int32.ofNat i)) r287_602 rfl rfl rfl ?_
  refine x_ic (v := 1) r287_604 rfl rfl ?_
  refine x_ar r287_605 rfl trivial rfl ?_
  refine am_topI (v := Int32.ofNat (i + 1)) (q_add i 1).symm ?_
  refine y_ialX (e := (i + 1)) r287_606 (q_vx hL (by omega)) (q_tn (by omega)) rfl ?_
  refine x_ld (v := .ref 124) r287_607 rfl rfl rfl ?_
  refine x_call1 (as := [.ref 0, .int (xs (i + 1)), .ref 124]) (rest := []) r287_608 rfl rfl rfl (by decide) (Nat.le_of_ble_eq_true rfl) (m267_ok h1) (Nat.le_trans (by decide) hd) hc hs rfl ?_
  refine x_sto (lc' := [.ref 1000002, .ref 0, .ref 106, .ref 124, .ref 125, .int (Int32.ofNat i), .int r, am_dead, am_dead, am_dead]) (st' := []) r287_611 rfl rfl rfl rfl ?_
  refine x_ld (v := .ref 106) r287_613 rfl rfl rfl ?_
  refine x_ld (v := .ref 1000002) r287_614 rfl rfl rfl ?_
  refine x_ld (v := .int (Int32.ofNat i)) r287_615 rfl rfl rfl ?_
  refine x_ic (v := 1) r287_617 rfl rfl ?_
  refine x_ar r287_618 rfl trivial rfl ?_
  refine am_topI (v := Int32.ofNat (i + 1)) (q_add i 1).symm ?_
  refine y_ialX (e := (i + 1)) r287_619 (q_vx hL (by omega)) (q_tn (by omega)) rfl ?_
  refine x_call1 (as := [.ref 106, .int (xs (i + 1))]) (rest := []) r287_620 rfl rfl rfl (by decide) (Nat.le_of_ble_eq_true rfl) (m87_ok h2) (Nat.le_trans (by decide) hd) hc hs rfl ?_
  refine x_sto (lc' := [.ref 1000002, .ref 0, .ref 106, .ref 124, .ref 125, .int (Int32.ofNat i), .int r, .int b, am_dead, am_dead]) (st' := []) r287_623 rfl rfl rfl rfl ?_
  refine x_ld (v := .ref 106) r287_625 rfl rfl rfl ?_
  refine x_call1 (as := [.ref 106]) (rest := []) r287_626 rfl rfl rfl (by decide) (Nat.le_of_ble_eq_true rfl) (m45_ok (r := D2.1 106 0) rfl) (Nat.le_trans (by decide) hd) hc hs rfl ?_
  refine x_ld (v := .int r) r287_629 rfl rfl rfl ?_
  refine x_iceqT r287_631 h3 ?_
  refine x_ld (v := .int r) r287_636 rfl rfl rfl ?_
  by_cases q : r = 0
  · refine x_ifneT r287_638 q rfl ?_
    refine x_ld (v := .ref 124) r287_641 rfl rfl rfl ?_
    refine x_ic (v := 0) r287_642 rfl rfl ?_
    refine y_lal (n := 1) (e := 0) r287_643 rfl (by decide) (by decide) rfl rfl ?_
    refine x_ld (v := .int b) r287_644 rfl rfl rfl ?_
    refine x_ar r287_646 rfl trivial rfl ?_
    refine x_ar r287_647 rfl trivial rfl ?_
    refine am_topI (v := 0) (by rw [h4 q, q_lgc]) ?_
    refine x_ifeqT r287_648 rfl ?_
    refine x_goto r287_653 ?_
    exact x_forget (lc0 := [.ref 1000002, .ref 0, .ref 106, .ref 124, .ref 125, .int (Int32.ofNat i), am_dead, am_dead, am_dead, am_dead]) ⟨Or.inl rfl, Or.inl rfl, Or.inl rfl, Or.inl rfl, Or.inl rfl, Or.inl rfl, Or.inr ⟨rfl, rfl⟩, Or.inr ⟨rfl, rfl⟩, Or.inl rfl, Or.inl rfl, trivial⟩ (nx D2 _ _ h5 (Nat.le_refl _) (Nat.le_refl _))
  · refine x_ifneF r287_638 q ?_
    refine x_goto r287_653 ?_
    exact x_forget (lc0 := [.ref 1000002, .ref 0, .ref 106, .ref 124, .ref 125, .int (Int32.ofNat i), am_dead, am_dead, am_dead, am_dead]) ⟨Or.inl rfl, Or.inl rfl, Or.inl rfl, Or.inl rfl, Or.inl rfl, Or.inl rfl, Or.inr ⟨rfl, rfl⟩, Or.inr ⟨rfl, rfl⟩, Or.inl rfl, Or.inl rfl, trivial⟩ (nx D2 _ _ h5 (Nat.le_refl _) (Nat.le_refl _))
theorem law_8 (hi : i + 5 ≤ L) (hL : L ≤ 2560) (hN : 2000 ≤ N) (hI : q_I D) (hc : c + 1 ≤ mc) (hs : s + 6 ≤ ms) (hd : 57 ≤ d) (nx : ∀ D' c' s', q_I D' → c' ≤ c + 1 → s' ≤ s + 6 → am_X xs L 287 d mc ms 1956 [.ref 1000002, .ref 0, .ref 106, .ref 124, .ref 125, .int (Int32.ofNat i), am_dead, am_dead, am_dead, am_dead] [] (am_mk D') c' s' Q) : am_X xs L 287 d mc ms 656 [.ref 1000002, .ref 0, .ref 106, .ref 124, .ref 125, .int (Int32.ofNat i), am_dead, am_dead, am_dead, am_dead] [] (am_mk D) c s Q := by
  obtain ⟨r, D1, b, D2, h1, h2, h3, h4, h5⟩ := g_set hN hI (xs (i + 1))
  refine x_ld (v := .ref 0) r287_656 rfl rfl rfl ?_
  refine x_ld (v := .ref 1000002) r287_657 rfl rfl rfl ?_
  refine x_ld (v := .int (Int32.ofNat i)) r287_658 rfl rfl rfl ?_
  refine x_ic (v := 1) r287_660 rfl rfl ?_
  refine x_ar r287_661 rfl trivial rfl ?_
  refine am_topI (v := Int32.ofNat (i + 1)) (q_add i 1).symm ?_
  refine y_ialX (e := (i + 1)) r287_662 (q_vx hL (by omega)) (q_tn (by omega)) rfl ?_
  refine x_ld (v := .ref 124) r287_663 rfl rfl rfl ?_
  refine x_call1 (as := [.ref 0, .int (xs (i + 1)), .ref 124]) (rest := []) r287_664 rfl rfl rfl (by decide) (Nat.le_of_ble_eq_true rfl) (m268_ok h1) (Nat.le_trans (by decide) hd) hc hs rfl ?_
  refine x_sto (lc' := [.ref 1000002, .ref 0, .ref 106, .ref 124, .ref 125, .int (Int32.ofNat i), .int r, am_dead, am_dead, am_dead]) (st' := []) r287_667 rfl rfl rfl rfl ?_
  refine x_ld (v := .ref 106) r287_669 rfl rfl rfl ?_
  refine x_ld (v := .ref 1000002) r287_670 rfl rfl rfl ?_
  refine x_ld (v := .int (Int32.ofNat i)) r287_671 rfl rfl rfl ?_
  refine x_ic (v := 1) r287_673 rfl rfl ?_
  refine x_ar r287_674 rfl trivial rfl ?_
  refine am_topI (v := Int32.ofNat (i + 1)) (q_add i 1).symm ?_
  refine y_ialX (e := (i + 1)) r287_675 (q_vx hL (by omega)) (q_tn (by omega)) rfl ?_
  refine x_call1 (as := [.ref 106, .int (xs (i + 1))]) (rest := []) r287_676 rfl rfl rfl (by decide) (Nat.le_of_ble_eq_true rfl) (m88_ok h2) (Nat.le_trans (by decide) hd) hc hs rfl ?_
  refine x_sto (lc' := [.ref 1000002, .ref 0, .ref 106, .ref 124, .ref 125, .int (Int32.ofNat i), .int r, .int b, am_dead, am_dead]) (st' := []) r287_679 rfl rfl rfl rfl ?_
  refine x_ld (v := .ref 106) r287_681 rfl rfl rfl ?_
  refine x_call1 (as := [.ref 106]) (rest := []) r287_682 rfl rfl rfl (by decide) (Nat.le_of_ble_eq_true rfl) (m45_ok (r := D2.1 106 0) rfl) (Nat.le_trans (by decide) hd) hc hs rfl ?_
  refine x_ld (v := .int r) r287_685 rfl rfl rfl ?_
  refine x_iceqT r287_687 h3 ?_
  refine x_ld (v := .int r) r287_692 rfl rfl rfl ?_
  by_cases q : r = 0
  · refine x_ifneT r287_694 q rfl ?_
    refine x_ld (v := .ref 124) r287_697 rfl rfl rfl ?_
    refine x_ic (v := 0) r287_698 rfl rfl ?_
    refine y_lal (n := 1) (e := 0) r287_699 rfl (by decide) (by decide) rfl rfl ?_
    refine x_ld (v := .int b) r287_700 rfl rfl rfl ?_
    refine x_ar r287_702 rfl trivial rfl ?_
    refine x_ar r287_703 rfl trivial rfl ?_
    refine am_topI (v := 0) (by rw [h4 q, q_lgc]) ?_
    refine x_ifeqT r287_704 rfl ?_
    refine x_goto r287_709 ?_
    exact x_forget (lc0 := [.ref 1000002, .ref 0, .ref 106, .ref 124, .ref 125, .int (Int32.ofNat i), am_dead, am_dead, am_dead, am_dead]) ⟨Or.inl rfl, Or.inl rfl, Or.inl rfl, Or.inl rfl, Or.inl rfl, Or.inl rfl, Or.inr ⟨rfl, rfl⟩, Or.inr ⟨rfl, rfl⟩, Or.inl rfl, Or.inl rfl, trivial⟩ (nx D2 _ _ h5 (Nat.le_refl _) (Nat.le_refl _))
  · refine x_ifneF r287_694 q ?_
    refine x_goto r287_709 ?_
    exact x_forget (lc0 := [.ref 1000002, .ref 0, .ref 106, .ref 124, .ref 125, .int (Int32.ofNat i), am_dead, am_dead, am_dead, am_dead]) ⟨Or.inl rfl, Or.inl rfl, Or.inl rfl, Or.inl rfl, Or.inl rfl, Or.inl rfl, Or.inr ⟨rfl, rfl⟩, Or.inr ⟨rfl, rfl⟩, Or.inl rfl, Or.inl rfl, trivial⟩ (nx D2 _ _ h5 (Nat.le_refl _) (Nat.le_refl _))
theorem law_9 (hi : i + 5 ≤ L) (hL : L ≤ 2560) (hN : 2000 ≤ N) (hI : q_I D) (hc : c + 1 ≤ mc) (hs : s + 6 ≤ ms) (hd : 57 ≤ d) (nx : ∀ D' c' s', q_I D' → c' ≤ c + 1 → s' ≤ s + 6 → am_X xs L 287 d mc ms 1956 [.ref 1000002, .ref 0, .ref 106, .ref 124, .ref 125, .int (Int32.ofNat i), am_dead, am_dead, am_dead, am_dead] [] (am_mk D') c' s' Q) : am_X xs L 287 d mc ms 712 [.ref 1000002, .ref 0, .ref 106, .ref 124, .ref 125, .int (Int32.ofNat i), am_dead, am_dead, am_dead, am_dead] [] (am_mk D) c s Q := by
  obtain ⟨r, D1, b, D2, h1, h2, h3, h4, h5⟩ := g_append hI (xs (i + 1))
  refine x_ld (v := .ref 0) r287_712 rfl rfl rfl ?_
  refine x_ld (v := .ref 1000002) r287_713 rfl rfl rfl ?_
  refine x_ld (v := .int (Int32.ofNat i)) r287_714 rfl rfl rfl ?_
  refine x_ic (v := 1) r287_716 rfl rfl ?_
  refine x_ar r287_717 rfl trivial rfl ?_
  refine am_topI (v := Int32.ofNat (i + 1)) (q_add i 1).symm ?_
  refine y_ialX (e := (i + 1)) r287_718 (q_vx hL (by omega)) (q_tn (by omega)) rfl ?_
  refine x_ld (v := .ref 124) r287_719 rfl rfl rfl ?_
  refine x_call1 (as := [.ref 0, .int (xs (i + 1)), .ref 124]) (rest := []) r287_720 rfl rfl rfl (by decide) (Nat.le_of_ble_eq_true rfl) (m269_ok h1) (Nat.le_trans (by decide) hd) hc hs rfl ?_
  refine x_sto (lc' := [.ref 1000002, .ref 0, .ref 106, .ref 124, .ref 125, .int (Int32.ofNat i), .int r, am_dead, am_dead, am_dead]) (st' := []) r287_723 rfl rfl rfl rfl ?_
  refine x_ld (v := .ref 106) r287_725 rfl rfl rfl ?_
  refine x_ld (v := .ref 1000002) r287_726 rfl rfl rfl ?_
  refine x_ld (v := .int (Int32.ofNat i)) r287_727 rfl rfl rfl ?_
  refine x_ic (v := 1) r287_729 rfl rfl ?_
  refine x_ar r287_730 rfl trivial rfl ?_
  refine am_topI (v := Int32.ofNat (i + 1)) (q_add i 1).symm ?_
  refine y_ialX (e := (i + 1)) r287_731 (q_vx hL (by omega)) (q_tn (by omega)) rfl ?_
  refine x_call1 (as := [.ref 106, .int (xs (i + 1))]) (rest := []) r287_732 rfl rfl rfl (by decide) (Nat.le_of_ble_eq_true rfl) (m89_ok h2) (Nat.le_trans (by decide) hd) hc hs rfl ?_
  refine x_sto (lc' := [.ref 1000002, .ref 0, .ref 106, .ref 124, .ref 125, .int (Int32.ofNat i), .int r, .int b, am_dead, am_dead]) (st' := []) r287_735 rfl rfl rfl rfl ?_
  refine x_ld (v := .ref 106) r287_737 rfl rfl rfl ?_
  refine x_call1 (as := [.ref 106]) (rest := []) r287_738 rfl rfl rfl (by decide) (Nat.le_of_ble_eq_true rfl) (m45_ok (r := D2.1 106 0) rfl) (Nat.le_trans (by decide) hd) hc hs rfl ?_
  refine x_ld (v := .int r) r287_741 rfl rfl rfl ?_
  refine x_iceqT r287_743 h3 ?_
  refine x_ld (v := .int r) r287_748 rfl rfl rfl ?_
  by_cases q : r = 0
  · refine x_ifneT r287_750 q rfl ?_
    refine x_ld (v := .ref 124) r287_753 rfl rfl rfl ?_
    refine x_ic (v := 0) r287_754 rfl rfl ?_
    refine y_lal (n := 1) (e := 0) r287_755 rfl (by decide) (by decide) rfl rfl ?_
    refine x_ld (v := .int b) r287_756 rfl rfl rfl ?_
    refine x_ar r287_758 rfl trivial rfl ?_
    refine x_ar r287_759 rfl trivial rfl ?_
    refine am_topI (v := 0) (by rw [h4 q, q_lgc]) ?_
    refine x_ifeqT r287_760 rfl ?_
    refine x_goto r287_765 ?_
    exact x_forget (lc0 := [.ref 1000002, .ref 0, .ref 106, .ref 124, .ref 125, .int (Int32.ofNat i), am_dead, am_dead, am_dead, am_dead]) ⟨Or.inl rfl, Or.inl rfl, Or.inl rfl, Or.inl rfl, Or.inl rfl, Or.inl rfl, Or.inr ⟨rfl, rfl⟩, Or.inr ⟨rfl, rfl⟩, Or.inl rfl, Or.inl rfl, trivial⟩ (nx D2 _ _ h5 (Nat.le_refl _) (Nat.le_refl _))
  · refine x_ifneF r287_750 q ?_
    refine x_goto r287_765 ?_
    exact x_forget (lc0 := [.ref 1000002, .ref 0, .ref 106, .ref 124, .ref 125, .int (Int32.ofNat i), am_dead, am_dead, am_dead, am_dead]) ⟨Or.inl rfl, Or.inl rfl, Or.inl rfl, Or.inl rfl, Or.inl rfl, Or.inl rfl, Or.inr ⟨rfl, rfl⟩, Or.inr ⟨rfl, rfl⟩, Or.inl rfl, Or.inl rfl, trivial⟩ (nx D2 _ _ h5 (Nat.le_refl _) (Nat.le_refl _))
theorem law_10 (hi : i + 5 ≤ L) (hL : L ≤ 2560) (hN : 2000 ≤ N) (hI : q_I D) (hc : c + 1 ≤ mc) (hs : s + 6 ≤ ms) (hd : 57 ≤ d) (nx : ∀ D' c' s', q_I D' → c' ≤ c + 1 → s' ≤ s + 6 → am_X xs L 287 d mc ms 1956 [.ref 1000002, .ref 0, .ref 106, .ref 124, .ref 125, .int (Int32.ofNat i), am_dead, am_dead, am_dead, am_dead] [] (am_mk D') c' s' Q) : am_X xs L 287 d mc ms 768 [.ref 1000002, .ref 0, .ref 106, .ref 124, .ref 125, .int (Int32.ofNat i), am_dead, am_dead, am_dead, am_dead] [] (am_mk D) c s Q := by
  obtain ⟨b, D2, h1, h2, h3⟩ := g_clear hI
  refine x_ld (v := .ref 0) r287_768 rfl rfl rfl ?_
  refine x_call1 (as := [.ref 0]) (rest := []) r287_769 rfl rfl rfl (by decide) (Nat.le_of_ble_eq_true rfl) (m11_ok (r := m11 D) rfl) (Nat.le_trans (by decide) hd) (Nat.le_of_succ_le hc) (Nat.le_trans (Nat.le_add_right _ _) hs) rfl ?_
  refine x_ld (v := .ref 106) r287_772 rfl rfl rfl ?_
  refine x_call1 (as := [.ref 106]) (rest := [.int (m11 D).1]) r287_773 rfl rfl rfl (by decide) (Nat.le_of_ble_eq_true rfl) (m90_ok (Option.some.inj h1)) (Nat.le_trans (by decide) hd) (Nat.le_of_succ_le hc) (Nat.le_trans (Nat.le_add_right _ _) hs) rfl ?_
  refine x_iceqT r287_776 h2.symm ?_
  exact nx D2 _ _ h3 (Nat.le_add_right _ _) (Nat.le_add_right _ _)
end TA1
