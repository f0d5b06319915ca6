section WR
variable {p : Program} {l : Launch} {e : Env} {R : Room} {s : State} {m : MethodId} {args : Array Value} {below : List Frame} {meth : Method} {c : Code} {H : Heap} {locs : List Loc} {cells slots : Nat} {Q : State → Prop}
variable {pc : Nat} {ls : Array Slot} {rest : List Value} {G : GG} {ws : va_W} {A : Nat → Prop} {y0 : MethodName} {b0 : ByteArray} {mL0 : Nat} {rt0 : Option FieldType} {a : Nat} {H0 : Heap}
theorem dL_law_566 : decode cL_law 566 = .ok (.aload_n 1, 1) := by decide +kernel
theorem dL_law_567 : decode cL_law 567 = .ok (.aload_n 0, 1) := by decide +kernel
theorem dL_law_568 : decode cL_law 568 = .ok (.iload_n 3, 1) := by decide +kernel
theorem dL_law_569 : decode cL_law 569 = .ok (.iconst 1, 1) := by decide +kernel
theorem dL_law_570 : decode cL_law 570 = .ok (.iadd, 1) := by decide +kernel
theorem dL_law_571 : decode cL_law 571 = .ok (.iaload, 1) := by decide +kernel
theorem dL_law_572 : decode cL_law 572 = .ok (.invokevirtual 57, 3) := by decide +kernel
theorem m_432 : Cond.code yX11_clash cX11_clash 2 (some .int) ∈ BW := iB_BW23 _ (List.mem_of_getElem? (i := 16) rfl)
theorem m_429 : Cond.methodLink RL 57 yX11_clash ∈ BW := iB_BW23 _ (List.mem_of_getElem? (i := 13) rfl)
theorem m_430 : Cond.instanceMethod yX11_clash ∈ BW := iB_BW23 _ (List.mem_of_getElem? (i := 14) rfl)
theorem m_431 : Cond.selects RX11 yX11_clash yX11_clash ∈ BW := iB_BW23 _ (List.mem_of_getElem? (i := 15) rfl)
theorem si_L_57 : SV RL RX11 57 yX11_clash cX11_clash 2 (some .int) 1 := ⟨⟨m_429, m_430, m_431, m_102, m_432⟩, rfl, nK_RX11.1, nK_RX11.2, pd_7⟩
theorem dL_law_575 : decode cL_law 575 = .ok (.pop, 1) := by decide +kernel
theorem dL_law_576 : decode cL_law 576 = .ok (.aload_n 2, 1) := by decide +kernel
theorem dL_law_577 : decode cL_law 577 = .ok (.aload_n 0, 1) := by decide +kernel
theorem dL_law_578 : decode cL_law 578 = .ok (.iload_n 3, 1) := by decide +kernel
theorem dL_law_579 : decode cL_law 579 = .ok (.iconst 1, 1) := by decide +kernel
theorem dL_law_580 : decode cL_law 580 = .ok (.iadd, 1) := by decide +kernel
theorem dL_law_581 : decode cL_law 581 = .ok (.iaload, 1) := by decide +kernel
theorem dL_law_582 : decode cL_law 582 = .ok (.invokevirtual 60, 3) := by decide +kernel
theorem m_1152 : Cond.code yX12_clash cX12_clash 2 (some .int) ∈ BW := iB_BW62 _ (List.mem_of_getElem? (i := 0) rfl)
theorem m_1149 : Cond.methodLink RL 60 yX12_clash ∈ BW := iB_BW61 _ (List.mem_of_getElem? (i := 17) rfl)
theorem m_1150 : Cond.instanceMethod yX12_clash ∈ BW := iB_BW61 _ (List.mem_of_getElem? (i := 18) rfl)
theorem m_1151 : Cond.selects RX12 yX12_clash yX12_clash ∈ BW := iB_BW61 _ (List.mem_of_getElem? (i := 19) rfl)
theorem si_L_60 : SV RL RX12 60 yX12_clash cX12_clash 2 (some .int) 1 := ⟨⟨m_1149, m_1150, m_1151, m_115, m_1152⟩, rfl, nK_RX12.1, nK_RX12.2, pd_7⟩
theorem dL_law_585 : decode cL_law 585 = .ok (.pop, 1) := by decide +kernel
theorem dL_law_586 : decode cL_law 586 = .ok (.goto 1132, 3) := by decide +kernel
theorem dL_law_589 : decode cL_law 589 = .ok (.aload_n 1, 1) := by decide +kernel
theorem dL_law_590 : decode cL_law 590 = .ok (.aload_n 0, 1) := by decide +kernel
theorem dL_law_591 : decode cL_law 591 = .ok (.iload_n 3, 1) := by decide +kernel
theorem dL_law_592 : decode cL_law 592 = .ok (.iconst 1, 1) := by decide +kernel
theorem dL_law_593 : decode cL_law 593 = .ok (.iadd, 1) := by decide +kernel
theorem dL_law_594 : decode cL_law 594 = .ok (.iaload, 1) := by decide +kernel
theorem dL_law_595 : decode cL_law 595 = .ok (.aload_n 0, 1) := by decide +kernel
theorem dL_law_596 : decode cL_law 596 = .ok (.iload_n 3, 1) := by decide +kernel
theorem dL_law_597 : decode cL_law 597 = .ok (.iconst 2, 1) := by decide +kernel
theorem dL_law_598 : decode cL_law 598 = .ok (.iadd, 1) := by decide +kernel
theorem dL_law_599 : decode cL_law 599 = .ok (.iaload, 1) := by decide +kernel
theorem dL_law_600 : decode cL_law 600 = .ok (.ifCond .eq 7, 3) := by decide +kernel
theorem dL_law_607 : decode cL_law 607 = .ok (.iconst 0, 1) := by decide +kernel
theorem dL_law_608 : decode cL_law 608 = .ok (.invokevirtual 61, 3) := by decide +kernel
theorem m_493 : Cond.code yX11_span cX11_span 3 (some .int) ∈ BW := iB_BW26 _ (List.mem_of_getElem? (i := 17) rfl)
theorem m_490 : Cond.methodLink RL 61 yX11_span ∈ BW := iB_BW26 _ (List.mem_of_getElem? (i := 14) rfl)
theorem m_491 : Cond.instanceMethod yX11_span ∈ BW := iB_BW26 _ (List.mem_of_getElem? (i := 15) rfl)
theorem m_492 : Cond.selects RX11 yX11_span yX11_span ∈ BW := iB_BW26 _ (List.mem_of_getElem? (i := 16) rfl)
theorem si_L_61 : SV RL RX11 61 yX11_span cX11_span 3 (some .int) 2 := ⟨⟨m_490, m_491, m_492, m_102, m_493⟩, rfl, nK_RX11.1, nK_RX11.2, pd_8⟩
theorem dL_law_611 : decode cL_law 611 = .ok (.pop, 1) := by decide +kernel
theorem dL_law_612 : decode cL_law 612 = .ok (.aload_n 2, 1) := by decide +kernel
theorem dL_law_613 : decode cL_law 613 = .ok (.aload_n 0, 1) := by decide +kernel
theorem dL_law_614 : decode cL_law 614 = .ok (.iload_n 3, 1) := by decide +kernel
theorem dL_law_615 : decode cL_law 615 = .ok (.iconst 1, 1) := by decide +kernel
theorem dL_law_616 : decode cL_law 616 = .ok (.iadd, 1) := by decide +kernel
theorem dL_law_617 : decode cL_law 617 = .ok (.iaload, 1) := by decide +kernel
theorem dL_law_618 : decode cL_law 618 = .ok (.aload_n 0, 1) := by decide +kernel
theorem dL_law_619 : decode cL_law 619 = .ok (.iload_n 3, 1) := by decide +kernel
theorem dL_law_620 : decode cL_law 620 = .ok (.iconst 2, 1) := by decide +kernel
theorem dL_law_621 : decode cL_law 621 = .ok (.iadd, 1) := by decide +kernel
theorem dL_law_622 : decode cL_law 622 = .ok (.iaload, 1) := by decide +kernel
theorem dL_law_623 : decode cL_law 623 = .ok (.ifCond .eq 7, 3) := by decide +kernel
theorem dL_law_630 : decode cL_law 630 = .ok (.iconst 0, 1) := by decide +kernel
theorem dL_law_631 : decode cL_law 631 = .ok (.invokevirtual 65, 3) := by decide +kernel
theorem m_1169 : Cond.code yX12_span cX12_span 3 (some .int) ∈ BW := iB_BW62 _ (List.mem_of_getElem? (i := 17) rfl)
theorem m_1166 : Cond.methodLink RL 65 yX12_span ∈ BW := iB_BW62 _ (List.mem_of_getElem? (i := 14) rfl)
theorem m_1167 : Cond.instanceMethod yX12_span ∈ BW := iB_BW62 _ (List.mem_of_getElem? (i := 15) rfl)
theorem m_1168 : Cond.selects RX12 yX12_span yX12_span ∈ BW := iB_BW62 _ (List.mem_of_getElem? (i := 16) rfl)
theorem si_L_65 : SV RL RX12 65 yX12_span cX12_span 3 (some .int) 2 := ⟨⟨m_1166, m_1167, m_1168, m_115, m_1169⟩, rfl, nK_RX12.1, nK_RX12.2, pd_8⟩
theorem dL_law_634 : decode cL_law 634 = .ok (.pop, 1) := by decide +kernel
theorem dL_law_635 : decode cL_law 635 = .ok (.goto 1083, 3) := by decide +kernel
theorem dL_law_603 : decode cL_law 603 = .ok (.iconst 1, 1) := by decide +kernel
theorem dL_law_604 : decode cL_law 604 = .ok (.goto 4, 3) := by decide +kernel
theorem dL_law_626 : decode cL_law 626 = .ok (.iconst 1, 1) := by decide +kernel
theorem dL_law_627 : decode cL_law 627 = .ok (.goto 4, 3) := by decide +kernel
theorem dL_law_638 : decode cL_law 638 = .ok (.aload_n 1, 1) := by decide +kernel
theorem dL_law_639 : decode cL_law 639 = .ok (.aload_n 0, 1) := by decide +kernel
theorem dL_law_640 : decode cL_law 640 = .ok (.iload_n 3, 1) := by decide +kernel
theorem dL_law_641 : decode cL_law 641 = .ok (.iconst 1, 1) := by decide +kernel
theorem dL_law_642 : decode cL_law 642 = .ok (.iadd, 1) := by decide +kernel
theorem dL_law_643 : decode cL_law 643 = .ok (.iaload, 1) := by decide +kernel
theorem dL_law_644 : decode cL_law 644 = .ok (.aload_n 0, 1) := by decide +kernel
theorem dL_law_645 : decode cL_law 645 = .ok (.iload_n 3, 1) := by decide +kernel
theorem dL_law_646 : decode cL_law 646 = .ok (.iconst 2, 1) := by decide +kernel
theorem dL_law_647 : decode cL_law 647 = .ok (.iadd, 1) := by decide +kernel
theorem dL_law_648 : decode cL_law 648 = .ok (.iaload, 1) := by decide +kernel
theorem dL_law_649 : decode cL_law 649 = .ok (.ifCond .eq 7, 3) := by decide +kernel
theorem dL_law_656 : decode cL_law 656 = .ok (.iconst 0, 1) := by decide +kernel
theorem dL_law_657 : decode cL_law 657 = .ok (.invokevirtual 66, 3) := by decide +kernel
theorem m_501 : Cond.code yX11_sent cX11_sent 3 (some .int) ∈ BW := iB_BW27 _ (List.mem_of_getElem? (i := 5) rfl)
theorem m_498 : Cond.methodLink RL 66 yX11_sent ∈ BW := iB_BW27 _ (List.mem_of_getElem? (i := 2) rfl)
theorem m_499 : Cond.instanceMethod yX11_sent ∈ BW := iB_BW27 _ (List.mem_of_getElem? (i := 3) rfl)
theorem m_500 : Cond.selects RX11 yX11_sent yX11_sent ∈ BW := iB_BW27 _ (List.mem_of_getElem? (i := 4) rfl)
theorem si_L_66 : SV RL RX11 66 yX11_sent cX11_sent 3 (some .int) 2 := ⟨⟨m_498, m_499, m_500, m_102, m_501⟩, rfl, nK_RX11.1, nK_RX11.2, pd_8⟩
theorem dL_law_660 : decode cL_law 660 = .ok (.pop, 1) := by decide +kernel
theorem dL_law_661 : decode cL_law 661 = .ok (.aload_n 2, 1) := by decide +kernel
theorem dL_law_662 : decode cL_law 662 = .ok (.aload_n 0, 1) := by decide +kernel
theorem dL_law_663 : decode cL_law 663 = .ok (.iload_n 3, 1) := by decide +kernel
theorem dL_law_664 : decode cL_law 664 = .ok (.iconst 1, 1) := by decide +kernel
theorem dL_law_665 : decode cL_law 665 = .ok (.iadd, 1) := by decide +kernel
theorem dL_law_666 : decode cL_law 666 = .ok (.iaload, 1) := by decide +kernel
theorem dL_law_667 : decode cL_law 667 = .ok (.aload_n 0, 1) := by decide +kernel
theorem dL_law_668 : decode cL_law 668 = .ok (.iload_n 3, 1) := by decide +kernel
theorem dL_law_669 : decode cL_law 669 = .ok (.iconst 2, 1) := by decide +kernel
theorem dL_law_670 : decode cL_law 670 = .ok (.iadd, 1) := by decide +kernel
theorem dL_law_671 : decode cL_law 671 = .ok (.iaload, 1) := by decide +kernel
theorem dL_law_672 : decode cL_law 672 = .ok (.ifCond .eq 7, 3) := by decide +kernel
theorem dL_law_679 : decode cL_law 679 = .ok (.iconst 0, 1) := by decide +kernel
theorem dL_law_680 : decode cL_law 680 = .ok (.invokevirtual 69, 3) := by decide +kernel
theorem m_1179 : Cond.code yX12_sent cX12_sent 3 (some .int) ∈ BW := iB_BW63 _ (List.mem_of_getElem? (i := 7) rfl)
theorem m_1176 : Cond.methodLink RL 69 yX12_sent ∈ BW := iB_BW63 _ (List.mem_of_getElem? (i := 4) rfl)
theorem m_1177 : Cond.instanceMethod yX12_sent ∈ BW := iB_BW63 _ (List.mem_of_getElem? (i := 5) rfl)
theorem m_1178 : Cond.selects RX12 yX12_sent yX12_sent ∈ BW := iB_BW63 _ (List.mem_of_getElem? (i := 6) rfl)
theorem si_L_69 : SV RL RX12 69 yX12_sent cX12_sent 3 (some .int) 2 := ⟨⟨m_1176, m_1177, m_1178, m_115, m_1179⟩, rfl, nK_RX12.1, nK_RX12.2, pd_8⟩
theorem dL_law_683 : decode cL_law 683 = .ok (.pop, 1) := by decide +kernel
theorem dL_law_684 : decode cL_law 684 = .ok (.goto 1034, 3) := by decide +kernel
theorem dL_law_652 : decode cL_law 652 = .ok (.iconst 1, 1) := by decide +kernel
theorem dL_law_653 : decode cL_law 653 = .ok (.goto 4, 3) := by decide +kernel
theorem dL_law_675 : decode cL_law 675 = .ok (.iconst 1, 1) := by decide +kernel
theorem dL_law_676 : decode cL_law 676 = .ok (.goto 4, 3) := by decide +kernel
theorem dL_law_687 : decode cL_law 687 = .ok (.aload_n 1, 1) := by decide +kernel
theorem dL_law_688 : decode cL_law 688 = .ok (.aload_n 0, 1) := by decide +kernel
theorem dL_law_689 : decode cL_law 689 = .ok (.iload_n 3, 1) := by decide +kernel
theorem dL_law_690 : decode cL_law 690 = .ok (.iconst 1, 1) := by decide +kernel
theorem dL_law_691 : decode cL_law 691 = .ok (.iadd, 1) := by decide +kernel
theorem dL_law_692 : decode cL_law 692 = .ok (.iaload, 1) := by decide +kernel
theorem dL_law_693 : decode cL_law 693 = .ok (.aload_n 0, 1) := by decide +kernel
theorem dL_law_694 : decode cL_law 694 = .ok (.iload_n 3, 1) := by decide +kernel
theorem dL_law_695 : decode cL_law 695 = .ok (.iconst 2, 1) := by decide +kernel
theorem dL_law_696 : decode cL_law 696 = .ok (.iadd, 1) := by decide +kernel
theorem dL_law_697 : decode cL_law 697 = .ok (.iaload, 1) := by decide +kernel
theorem dL_law_698 : decode cL_law 698 = .ok (.aload_n 0, 1) := by decide +kernel
theorem dL_law_699 : decode cL_law 699 = .ok (.iload_n 3, 1) := by decide +kernel
theorem dL_law_700 : decode cL_law 700 = .ok (.iconst 3, 1) := by decide +kernel
theorem dL_law_701 : decode cL_law 701 = .ok (.iadd, 1) := by decide +kernel
theorem dL_law_702 : decode cL_law 702 = .ok (.iaload, 1) := by decide +kernel
theorem dL_law_703 : decode cL_law 703 = .ok (.ifCond .eq 7, 3) := by decide +kernel
theorem dL_law_710 : decode cL_law 710 = .ok (.iconst 0, 1) := by decide +kernel
theorem dL_law_711 : decode cL_law 711 = .ok (.invokevirtual 70, 3) := by decide +kernel
theorem m_514 : Cond.code yX11_hand cX11_hand 4 (some .int) ∈ BW := iB_BW27 _ (List.mem_of_getElem? (i := 18) rfl)
theorem m_511 : Cond.methodLink RL 70 yX11_hand ∈ BW := iB_BW27 _ (List.mem_of_getElem? (i := 15) rfl)
theorem m_512 : Cond.instanceMethod yX11_hand ∈ BW := iB_BW27 _ (List.mem_of_getElem? (i := 16) rfl)
theorem m_513 : Cond.selects RX11 yX11_hand yX11_hand ∈ BW := iB_BW27 _ (List.mem_of_getElem? (i := 17) rfl)
theorem si_L_70 : SV RL RX11 70 yX11_hand cX11_hand 4 (some .int) 3 := ⟨⟨m_511, m_512, m_513, m_102, m_514⟩, rfl, nK_RX11.1, nK_RX11.2, pd_6⟩
theorem dL_law_714 : decode cL_law 714 = .ok (.pop, 1) := by decide +kernel
theorem dL_law_715 : decode cL_law 715 = .ok (.aload_n 2, 1) := by decide +kernel
theorem dL_law_716 : decode cL_law 716 = .ok (.aload_n 0, 1) := by decide +kernel
theorem dL_law_717 : decode cL_law 717 = .ok (.iload_n 3, 1) := by decide +kernel
theorem dL_law_718 : decode cL_law 718 = .ok (.iconst 1, 1) := by decide +kernel
theorem dL_law_719 : decode cL_law 719 = .ok (.iadd, 1) := by decide +kernel
theorem dL_law_720 : decode cL_law 720 = .ok (.iaload, 1) := by decide +kernel
theorem dL_law_721 : decode cL_law 721 = .ok (.aload_n 0, 1) := by decide +kernel
theorem dL_law_722 : decode cL_law 722 = .ok (.iload_n 3, 1) := by decide +kernel
theorem dL_law_723 : decode cL_law 723 = .ok (.iconst 2, 1) := by decide +kernel
theorem dL_law_724 : decode cL_law 724 = .ok (.iadd, 1) := by decide +kernel
theorem dL_law_725 : decode cL_law 725 = .ok (.iaload, 1) := by decide +kernel
theorem dL_law_726 : decode cL_law 726 = .ok (.aload_n 0, 1) := by decide +kernel
theorem dL_law_727 : decode cL_law 727 = .ok (.iload_n 3, 1) := by decide +kernel
theorem dL_law_728 : decode cL_law 728 = .ok (.iconst 3, 1) := by decide +kernel
theorem dL_law_729 : decode cL_law 729 = .ok (.iadd, 1) := by decide +kernel
theorem dL_law_730 : decode cL_law 730 = .ok (.iaload, 1) := by decide +kernel
theorem dL_law_731 : decode cL_law 731 = .ok (.ifCond .eq 7, 3) := by decide +kernel
theorem dL_law_738 : decode cL_law 738 = .ok (.iconst 0, 1) := by decide +kernel
theorem dL_law_739 : decode cL_law 739 = .ok (.invokevirtual 74, 3) := by decide +kernel
theorem m_1186 : Cond.code yX12_hand cX12_hand 4 (some .int) ∈ BW := iB_BW63 _ (List.mem_of_getElem? (i := 14) rfl)
theorem m_1183 : Cond.methodLink RL 74 yX12_hand ∈ BW := iB_BW63 _ (List.mem_of_getElem? (i := 11) rfl)
theorem m_1184 : Cond.instanceMethod yX12_hand ∈ BW := iB_BW63 _ (List.mem_of_getElem? (i := 12) rfl)
theorem m_1185 : Cond.selects RX12 yX12_hand yX12_hand ∈ BW := iB_BW63 _ (List.mem_of_getElem? (i := 13) rfl)
theorem si_L_74 : SV RL RX12 74 yX12_hand cX12_hand 4 (some .int) 3 := ⟨⟨m_1183, m_1184, m_1185, m_115, m_1186⟩, rfl, nK_RX12.1, nK_RX12.2, pd_6⟩
theorem dL_law_742 : decode cL_law 742 = .ok (.pop, 1) := by decide +kernel
theorem dL_law_743 : decode cL_law 743 = .ok (.goto 975, 3) := by decide +kernel
theorem dL_law_706 : decode cL_law 706 = .ok (.iconst 1, 1) := by decide +kernel
theorem dL_law_707 : decode cL_law 707 = .ok (.goto 4, 3) := by decide +kernel
theorem dL_law_734 : decode cL_law 734 = .ok (.iconst 1, 1) := by decide +kernel
theorem dL_law_735 : decode cL_law 735 = .ok (.goto 4, 3) := by decide +kernel
theorem dL_law_746 : decode cL_law 746 = .ok (.aload_n 1, 1) := by decide +kernel
theorem dL_law_747 : decode cL_law 747 = .ok (.aload_n 0, 1) := by decide +kernel
theorem dL_law_748 : decode cL_law 748 = .ok (.iload_n 3, 1) := by decide +kernel
theorem dL_law_749 : decode cL_law 749 = .ok (.iconst 1, 1) := by decide +kernel
theorem dL_law_750 : decode cL_law 750 = .ok (.iadd, 1) := by decide +kernel
theorem dL_law_751 : decode cL_law 751 = .ok (.iaload, 1) := by decide +kernel
theorem dL_law_752 : decode cL_law 752 = .ok (.aload_n 0, 1) := by decide +kernel
theorem dL_law_753 : decode cL_law 753 = .ok (.iload_n 3, 1) := by decide +kernel
theorem dL_law_754 : decode cL_law 754 = .ok (.iconst 2, 1) := by decide +kernel
theorem dL_law_755 : decode cL_law 755 = .ok (.iadd, 1) := by decide +kernel
theorem dL_law_756 : decode cL_law 756 = .ok (.iaload, 1) := by decide +kernel
theorem dL_law_757 : decode cL_law 757 = .ok (.invokevirtual 75, 3) := by decide +kernel
theorem m_526 : Cond.code yX11_before cX11_before 3 (some .int) ∈ BW := iB_BW28 _ (List.mem_of_getElem? (i := 10) rfl)
theorem m_523 : Cond.methodLink RL 75 yX11_before ∈ BW := iB_BW28 _ (List.mem_of_getElem? (i := 7) rfl)
theorem m_524 : Cond.instanceMethod yX11_before ∈ BW := iB_BW28 _ (List.mem_of_getElem? (i := 8) rfl)
theorem m_525 : Cond.selects RX11 yX11_before yX11_before ∈ BW := iB_BW28 _ (List.mem_of_getElem? (i := 9) rfl)
theorem si_L_75 : SV RL RX11 75 yX11_before cX11_before 3 (some .int) 2 := ⟨⟨m_523, m_524, m_525, m_102, m_526⟩, rfl, nK_RX11.1, nK_RX11.2, pd_2⟩
theorem dL_law_760 : decode cL_law 760 = .ok (.pop, 1) := by decide +kernel
theorem dL_law_761 : decode cL_law 761 = .ok (.aload_n 2, 1) := by decide +kernel
theorem dL_law_762 : decode cL_law 762 = .ok (.aload_n 0, 1) := by decide +kernel
theorem dL_law_763 : decode cL_law 763 = .ok (.iload_n 3, 1) := by decide +kernel
theorem dL_law_764 : decode cL_law 764 = .ok (.iconst 1, 1) := by decide +kernel
theorem dL_law_765 : decode cL_law 765 = .ok (.iadd, 1) := by decide +kernel
theorem dL_law_766 : decode cL_law 766 = .ok (.iaload, 1) := by decide +kernel
theorem dL_law_767 : decode cL_law 767 = .ok (.aload_n 0, 1) := by decide +kernel
theorem dL_law_768 : decode cL_law 768 = .ok (.iload_n 3, 1) := by decide +kernel
theorem dL_law_769 : decode cL_law 769 = .ok (.iconst 2, 1) := by decide +kernel
theorem dL_law_770 : decode cL_law 770 = .ok (.iadd, 1) := by decide +kernel
theorem dL_law_771 : decode cL_law 771 = .ok (.iaload, 1) := by decide +kernel
theorem dL_law_772 : decode cL_law 772 = .ok (.invokevirtual 78, 3) := by decide +kernel
theorem m_1193 : Cond.code yX12_before cX12_before 9 (some .int) ∈ BW := iB_BW64 _ (List.mem_of_getElem? (i := 1) rfl)
theorem m_1190 : Cond.methodLink RL 78 yX12_before ∈ BW := iB_BW63 _ (List.mem_of_getElem? (i := 18) rfl)
theorem m_1191 : Cond.instanceMethod yX12_before ∈ BW := iB_BW63 _ (List.mem_of_getElem? (i := 19) rfl)
theorem m_1192 : Cond.selects RX12 yX12_before yX12_before ∈ BW := iB_BW64 _ (List.mem_of_getElem? (i := 0) rfl)
theorem si_L_78 : SV RL RX12 78 yX12_before cX12_before 9 (some .int) 2 := ⟨⟨m_1190, m_1191, m_1192, m_115, m_1193⟩, rfl, nK_RX12.1, nK_RX12.2, pd_2⟩
theorem dL_law_775 : decode cL_law 775 = .ok (.pop, 1) := by decide +kernel
theorem dL_law_776 : decode cL_law 776 = .ok (.goto 942, 3) := by decide +kernel
theorem dL_law_779 : decode cL_law 779 = .ok (.aload_n 1, 1) := by decide +kernel
theorem dL_law_780 : decode cL_law 780 = .ok (.aload_n 0, 1) := by decide +kernel
theorem dL_law_781 : decode cL_law 781 = .ok (.iload_n 3, 1) := by decide +kernel
theorem dL_law_782 : decode cL_law 782 = .ok (.iconst 1, 1) := by decide +kernel
theorem dL_law_783 : decode cL_law 783 = .ok (.iadd, 1) := by decide +kernel
theorem dL_law_784 : decode cL_law 784 = .ok (.iaload, 1) := by decide +kernel
theorem dL_law_785 : decode cL_law 785 = .ok (.aload_n 0, 1) := by decide +kernel
theorem dL_law_786 : decode cL_law 786 = .ok (.iload_n 3, 1) := by decide +kernel
theorem dL_law_787 : decode cL_law 787 = .ok (.iconst 2, 1) := by decide +kernel
theorem dL_law_788 : decode cL_law 788 = .ok (.iadd, 1) := by decide +kernel
theorem dL_law_789 : decode cL_law 789 = .ok (.iaload, 1) := by decide +kernel
theorem dL_law_790 : decode cL_law 790 = .ok (.aload_n 0, 1) := by decide +kernel
theorem dL_law_791 : decode cL_law 791 = .ok (.iload_n 3, 1) := by decide +kernel
theorem dL_law_792 : decode cL_law 792 = .ok (.iconst 3, 1) := by decide +kernel
theorem dL_law_793 : decode cL_law 793 = .ok (.iadd, 1) := by decide +kernel
theorem dL_law_794 : decode cL_law 794 = .ok (.iaload, 1) := by decide +kernel
theorem dL_law_795 : decode cL_law 795 = .ok (.invokevirtual 79, 3) := by decide +kernel
theorem m_544 : Cond.code yX11_knew cX11_knew 5 (some .int) ∈ BW := iB_BW29 _ (List.mem_of_getElem? (i := 8) rfl)
theorem m_541 : Cond.methodLink RL 79 yX11_knew ∈ BW := iB_BW29 _ (List.mem_of_getElem? (i := 5) rfl)
theorem m_542 : Cond.instanceMethod yX11_knew ∈ BW := iB_BW29 _ (List.mem_of_getElem? (i := 6) rfl)
theorem m_543 : Cond.selects RX11 yX11_knew yX11_knew ∈ BW := iB_BW29 _ (List.mem_of_getElem? (i := 7) rfl)
theorem si_L_79 : SV RL RX11 79 yX11_knew cX11_knew 5 (some .int) 3 := ⟨⟨m_541, m_542, m_543, m_102, m_544⟩, rfl, nK_RX11.1, nK_RX11.2, pd_19⟩
theorem dL_law_798 : decode cL_law 798 = .ok (.pop, 1) := by decide +kernel
theorem dL_law_799 : decode cL_law 799 = .ok (.aload_n 2, 1) := by decide +kernel
theorem dL_law_800 : decode cL_law 800 = .ok (.aload_n 0, 1) := by decide +kernel
theorem dL_law_801 : decode cL_law 801 = .ok (.iload_n 3, 1) := by decide +kernel
theorem dL_law_802 : decode cL_law 802 = .ok (.iconst 1, 1) := by decide +kernel
theorem dL_law_803 : decode cL_law 803 = .ok (.iadd, 1) := by decide +kernel
theorem dL_law_804 : decode cL_law 804 = .ok (.iaload, 1) := by decide +kernel
theorem dL_law_805 : decode cL_law 805 = .ok (.aload_n 0, 1) := by decide +kernel
theorem dL_law_806 : decode cL_law 806 = .ok (.iload_n 3, 1) := by decide +kernel
theorem dL_law_807 : decode cL_law 807 = .ok (.iconst 2, 1) := by decide +kernel
theorem dL_law_808 : decode cL_law 808 = .ok (.iadd, 1) := by decide +kernel
theorem dL_law_809 : decode cL_law 809 = .ok (.iaload, 1) := by decide +kernel
theorem dL_law_810 : decode cL_law 810 = .ok (.aload_n 0, 1) := by decide +kernel
theorem dL_law_811 : decode cL_law 811 = .ok (.iload_n 3, 1) := by decide +kernel
theorem dL_law_812 : decode cL_law 812 = .ok (.iconst 3, 1) := by decide +kernel
theorem dL_law_813 : decode cL_law 813 = .ok (.iadd, 1) := by decide +kernel
theorem dL_law_814 : decode cL_law 814 = .ok (.iaload, 1) := by decide +kernel
theorem dL_law_815 : decode cL_law 815 = .ok (.invokevirtual 82, 3) := by decide +kernel
theorem m_1197 : Cond.code yX12_knew cX12_knew 5 (some .int) ∈ BW := iB_BW64 _ (List.mem_of_getElem? (i := 5) rfl)
theorem m_1194 : Cond.methodLink RL 82 yX12_knew ∈ BW := iB_BW64 _ (List.mem_of_getElem? (i := 2) rfl)
theorem m_1195 : Cond.instanceMethod yX12_knew ∈ BW := iB_BW64 _ (List.mem_of_getElem? (i := 3) rfl)
theorem m_1196 : Cond.selects RX12 yX12_knew yX12_knew ∈ BW := iB_BW64 _ (List.mem_of_getElem? (i := 4) rfl)
theorem si_L_82 : SV RL RX12 82 yX12_knew cX12_knew 5 (some .int) 3 := ⟨⟨m_1194, m_1195, m_1196, m_115, m_1197⟩, rfl, nK_RX12.1, nK_RX12.2, pd_19⟩
theorem dL_law_818 : decode cL_law 818 = .ok (.pop, 1) := by decide +kernel
theorem dL_law_819 : decode cL_law 819 = .ok (.goto 899, 3) := by decide +kernel
theorem dL_law_822 : decode cL_law 822 = .ok (.aload_n 1, 1) := by decide +kernel
theorem dL_law_823 : decode cL_law 823 = .ok (.aload_n 0, 1) := by decide +kernel
theorem dL_law_824 : decode cL_law 824 = .ok (.iload_n 3, 1) := by decide +kernel
theorem dL_law_825 : decode cL_law 825 = .ok (.iconst 1, 1) := by decide +kernel
theorem dL_law_826 : decode cL_law 826 = .ok (.iadd, 1) := by decide +kernel
theorem dL_law_827 : decode cL_law 827 = .ok (.iaload, 1) := by decide +kernel
theorem dL_law_828 : decode cL_law 828 = .ok (.i2l, 1) := by decide +kernel
theorem dL_law_829 : decode cL_law 829 = .ok (.bipush 32, 2) := by decide +kernel
theorem dL_law_831 : decode cL_law 831 = .ok (.lshl, 1) := by decide +kernel
theorem dL_law_832 : decode cL_law 832 = .ok (.aload_n 0, 1) := by decide +kernel
theorem dL_law_833 : decode cL_law 833 = .ok (.iload_n 3, 1) := by decide +kernel
theorem dL_law_834 : decode cL_law 834 = .ok (.iconst 2, 1) := by decide +kernel
theorem dL_law_835 : decode cL_law 835 = .ok (.iadd, 1) := by decide +kernel
theorem dL_law_836 : decode cL_law 836 = .ok (.iaload, 1) := by decide +kernel
theorem dL_law_837 : decode cL_law 837 = .ok (.i2l, 1) := by decide +kernel
theorem dL_law_838 : decode cL_law 838 = .ok (.ldc2_w 83, 3) := by decide +kernel
theorem m_1426 : Cond.constantLong RL 83 (4294967295) ∈ BW := iB_BW76 _ (List.mem_of_getElem? (i := 2) rfl)
theorem dL_law_841 : decode cL_law 841 = .ok (.land, 1) := by decide +kernel
theorem dL_law_842 : decode cL_law 842 = .ok (.lor, 1) := by decide +kernel
theorem dL_law_843 : decode cL_law 843 = .ok (.aload_n 0, 1) := by decide +kernel
theorem dL_law_844 : decode cL_law 844 = .ok (.iload_n 3, 1) := by decide +kernel
theorem dL_law_845 : decode cL_law 845 = .ok (.iconst 3, 1) := by decide +kernel
theorem dL_law_846 : decode cL_law 846 = .ok (.iadd, 1) := by decide +kernel
theorem dL_law_847 : decode cL_law 847 = .ok (.iaload, 1) := by decide +kernel
theorem dL_law_848 : decode cL_law 848 = .ok (.invokevirtual 85, 3) := by decide +kernel
theorem m_603 : Cond.code yX11_feed cX11_feed 5 (some .int) ∈ BW := iB_BW33 _ (List.mem_of_getElem? (i := 3) rfl)
theorem pd_35 : (parseMethodDescriptor "(JI)I").map (fun d => d.parameters.length) = some 2 := by decide +kernel
theorem m_600 : Cond.methodLink RL 85 yX11_feed ∈ BW := iB_BW33 _ (List.mem_of_getElem? (i := 0) rfl)
theorem m_601 : Cond.instanceMethod yX11_feed ∈ BW := iB_BW33 _ (List.mem_of_getElem? (i := 1) rfl)
theorem m_602 : Cond.selects RX11 yX11_feed yX11_feed ∈ BW := iB_BW33 _ (List.mem_of_getElem? (i := 2) rfl)
theorem si_L_85 : SV RL RX11 85 yX11_feed cX11_feed 5 (some .int) 2 := ⟨⟨m_600, m_601, m_602, m_102, m_603⟩, rfl, nK_RX11.1, nK_RX11.2, pd_35⟩
theorem dL_law_851 : decode cL_law 851 = .ok (.pop, 1) := by decide +kernel
theorem dL_law_852 : decode cL_law 852 = .ok (.aload_n 2, 1) := by decide +kernel
theorem dL_law_853 : decode cL_law 853 = .ok (.aload_n 0, 1) := by decide +kernel
theorem dL_law_854 : decode cL_law 854 = .ok (.iload_n 3, 1) := by decide +kernel
theorem dL_law_855 : decode cL_law 855 = .ok (.iconst 1, 1) := by decide +kernel
theorem dL_law_856 : decode cL_law 856 = .ok (.iadd, 1) := by decide +kernel
theorem dL_law_857 : decode cL_law 857 = .ok (.iaload, 1) := by decide +kernel
theorem dL_law_858 : decode cL_law 858 = .ok (.i2l, 1) := by decide +kernel
theorem dL_law_859 : decode cL_law 859 = .ok (.bipush 32, 2) := by decide +kernel
theorem dL_law_861 : decode cL_law 861 = .ok (.lshl, 1) := by decide +kernel
theorem dL_law_862 : decode cL_law 862 = .ok (.aload_n 0, 1) := by decide +kernel
theorem dL_law_863 : decode cL_law 863 = .ok (.iload_n 3, 1) := by decide +kernel
theorem dL_law_864 : decode cL_law 864 = .ok (.iconst 2, 1) := by decide +kernel
theorem dL_law_865 : decode cL_law 865 = .ok (.iadd, 1) := by decide +kernel
theorem dL_law_866 : decode cL_law 866 = .ok (.iaload, 1) := by decide +kernel
theorem dL_law_867 : decode cL_law 867 = .ok (.i2l, 1) := by decide +kernel
theorem dL_law_868 : decode cL_law 868 = .ok (.ldc2_w 83, 3) := by decide +kernel
theorem dL_law_871 : decode cL_law 871 = .ok (.land, 1) := by decide +kernel
theorem dL_law_872 : decode cL_law 872 = .ok (.lor, 1) := by decide +kernel
theorem dL_law_873 : decode cL_law 873 = .ok (.aload_n 0, 1) := by decide +kernel
theorem dL_law_874 : decode cL_law 874 = .ok (.iload_n 3, 1) := by decide +kernel
theorem dL_law_875 : decode cL_law 875 = .ok (.iconst 3, 1) := by decide +kernel
theorem dL_law_876 : decode cL_law 876 = .ok (.iadd, 1) := by decide +kernel
theorem dL_law_877 : decode cL_law 877 = .ok (.iaload, 1) := by decide +kernel
theorem dL_law_878 : decode cL_law 878 = .ok (.invokevirtual 89, 3) := by decide +kernel
theorem m_1236 : Cond.code yX12_feed cX12_feed 5 (some .int) ∈ BW := iB_BW66 _ (List.mem_of_getElem? (i := 4) rfl)
theorem m_1233 : Cond.methodLink RL 89 yX12_feed ∈ BW := iB_BW66 _ (List.mem_of_getElem? (i := 1) rfl)
theorem m_1234 : Cond.instanceMethod yX12_feed ∈ BW := iB_BW66 _ (List.mem_of_getElem? (i := 2) rfl)
theorem m_1235 : Cond.selects RX12 yX12_feed yX12_feed ∈ BW := iB_BW66 _ (List.mem_of_getElem? (i := 3) rfl)
theorem si_L_89 : SV RL RX12 89 yX12_feed cX12_feed 5 (some .int) 2 := ⟨⟨m_1233, m_1234, m_1235, m_115, m_1236⟩, rfl, nK_RX12.1, nK_RX12.2, pd_35⟩
theorem dL_law_881 : decode cL_law 881 = .ok (.pop, 1) := by decide +kernel
theorem dL_law_882 : decode cL_law 882 = .ok (.goto 836, 3) := by decide +kernel
theorem dL_law_885 : decode cL_law 885 = .ok (.aload_n 1, 1) := by decide +kernel
theorem dL_law_886 : decode cL_law 886 = .ok (.invokevirtual 90, 3) := by decide +kernel
theorem m_615 : Cond.code yX11_read cX11_read 2 (some .int) ∈ BW := iB_BW33 _ (List.mem_of_getElem? (i := 15) rfl)
theorem m_612 : Cond.methodLink RL 90 yX11_read ∈ BW := iB_BW33 _ (List.mem_of_getElem? (i := 12) rfl)
theorem m_613 : Cond.instanceMethod yX11_read ∈ BW := iB_BW33 _ (List.mem_of_getElem? (i := 13) rfl)
theorem m_614 : Cond.selects RX11 yX11_read yX11_read ∈ BW := iB_BW33 _ (List.mem_of_getElem? (i := 14) rfl)
theorem si_L_90 : SV RL RX11 90 yX11_read cX11_read 2 (some .int) 0 := ⟨⟨m_612, m_613, m_614, m_102, m_615⟩, rfl, nK_RX11.1, nK_RX11.2, pd_1⟩
theorem dL_law_889 : decode cL_law 889 = .ok (.pop, 1) := by decide +kernel
theorem dL_law_890 : decode cL_law 890 = .ok (.aload_n 2, 1) := by decide +kernel
theorem dL_law_891 : decode cL_law 891 = .ok (.invokevirtual 94, 3) := by decide +kernel
theorem m_1241 : Cond.code yX12_read cX12_read 5 (some .int) ∈ BW := iB_BW66 _ (List.mem_of_getElem? (i := 9) rfl)
theorem m_1238 : Cond.methodLink RL 94 yX12_read ∈ BW := iB_BW66 _ (List.mem_of_getElem? (i := 6) rfl)
theorem m_1239 : Cond.instanceMethod yX12_read ∈ BW := iB_BW66 _ (List.mem_of_getElem? (i := 7) rfl)
theorem m_1240 : Cond.selects RX12 yX12_read yX12_read ∈ BW := iB_BW66 _ (List.mem_of_getElem? (i := 8) rfl)
theorem si_L_94 : SV RL RX12 94 yX12_read cX12_read 5 (some .int) 0 := ⟨⟨m_1238, m_1239, m_1240, m_115, m_1241⟩, rfl, nK_RX12.1, nK_RX12.2, pd_1⟩
theorem dL_law_894 : decode cL_law 894 = .ok (.pop, 1) := by decide +kernel
theorem dL_law_895 : decode cL_law 895 = .ok (.goto 823, 3) := by decide +kernel
theorem dL_law_898 : decode cL_law 898 = .ok (.aload_n 1, 1) := by decide +kernel
theorem dL_law_899 : decode cL_law 899 = .ok (.aload_n 0, 1) := by decide +kernel
theorem dL_law_900 : decode cL_law 900 = .ok (.iload_n 3, 1) := by decide +kernel
theorem dL_law_901 : decode cL_law 901 = .ok (.iconst 1, 1) := by decide +kernel
theorem dL_law_902 : decode cL_law 902 = .ok (.iadd, 1) := by decide +kernel
theorem dL_law_903 : decode cL_law 903 = .ok (.iaload, 1) := by decide +kernel
theorem dL_law_904 : decode cL_law 904 = .ok (.aload_n 0, 1) := by decide +kernel
theorem dL_law_905 : decode cL_law 905 = .ok (.iload_n 3, 1) := by decide +kernel
theorem dL_law_906 : decode cL_law 906 = .ok (.iconst 2, 1) := by decide +kernel
theorem dL_law_907 : decode cL_law 907 = .ok (.iadd, 1) := by decide +kernel
theorem dL_law_908 : decode cL_law 908 = .ok (.iaload, 1) := by decide +kernel
theorem dL_law_909 : decode cL_law 909 = .ok (.aload_n 0, 1) := by decide +kernel
theorem dL_law_910 : decode cL_law 910 = .ok (.iload_n 3, 1) := by decide +kernel
theorem dL_law_911 : decode cL_law 911 = .ok (.iconst 3, 1) := by decide +kernel
theorem dL_law_912 : decode cL_law 912 = .ok (.iadd, 1) := by decide +kernel
theorem dL_law_913 : decode cL_law 913 = .ok (.iaload, 1) := by decide +kernel
theorem dL_law_914 : decode cL_law 914 = .ok (.invokevirtual 95, 3) := by decide +kernel
theorem m_742 : Cond.code yX11_line cX11_line 5 (some .int) ∈ BW := iB_BW40 _ (List.mem_of_getElem? (i := 2) rfl)
theorem m_739 : Cond.methodLink RL 95 yX11_line ∈ BW := iB_BW39 _ (List.mem_of_getElem? (i := 19) rfl)
theorem m_740 : Cond.instanceMethod yX11_line ∈ BW := iB_BW40 _ (List.mem_of_getElem? (i := 0) rfl)
theorem m_741 : Cond.selects RX11 yX11_line yX11_line ∈ BW := iB_BW40 _ (List.mem_of_getElem? (i := 1) rfl)
theorem si_L_95 : SV RL RX11 95 yX11_line cX11_line 5 (some .int) 3 := ⟨⟨m_739, m_740, m_741, m_102, m_742⟩, rfl, nK_RX11.1, nK_RX11.2, pd_19⟩
theorem dL_law_917 : decode cL_law 917 = .ok (.pop, 1) := by decide +kernel
theorem dL_law_918 : decode cL_law 918 = .ok (.aload_n 2, 1) := by decide +kernel
theorem dL_law_919 : decode cL_law 919 = .ok (.aload_n 0, 1) := by decide +kernel
theorem dL_law_920 : decode cL_law 920 = .ok (.iload_n 3, 1) := by decide +kernel
theorem dL_law_921 : decode cL_law 921 = .ok (.iconst 1, 1) := by decide +kernel
theorem dL_law_922 : decode cL_law 922 = .ok (.iadd, 1) := by decide +kernel
theorem dL_law_923 : decode cL_law 923 = .ok (.iaload, 1) := by decide +kernel
theorem dL_law_924 : decode cL_law 924 = .ok (.aload_n 0, 1) := by decide +kernel
theorem dL_law_925 : decode cL_law 925 = .ok (.iload_n 3, 1) := by decide +kernel
theorem dL_law_926 : decode cL_law 926 = .ok (.iconst 2, 1) := by decide +kernel
theorem dL_law_927 : decode cL_law 927 = .ok (.iadd, 1) := by decide +kernel
theorem dL_law_928 : decode cL_law 928 = .ok (.iaload, 1) := by decide +kernel
theorem dL_law_929 : decode cL_law 929 = .ok (.aload_n 0, 1) := by decide +kernel
theorem dL_law_930 : decode cL_law 930 = .ok (.iload_n 3, 1) := by decide +kernel
theorem dL_law_931 : decode cL_law 931 = .ok (.iconst 3, 1) := by decide +kernel
theorem dL_law_932 : decode cL_law 932 = .ok (.iadd, 1) := by decide +kernel
theorem dL_law_933 : decode cL_law 933 = .ok (.iaload, 1) := by decide +kernel
theorem dL_law_934 : decode cL_law 934 = .ok (.invokevirtual 98, 3) := by decide +kernel
theorem m_1280 : Cond.code yX12_line cX12_line 4 (some .int) ∈ BW := iB_BW68 _ (List.mem_of_getElem? (i := 8) rfl)
theorem m_1277 : Cond.methodLink RL 98 yX12_line ∈ BW := iB_BW68 _ (List.mem_of_getElem? (i := 5) rfl)
theorem m_1278 : Cond.instanceMethod yX12_line ∈ BW := iB_BW68 _ (List.mem_of_getElem? (i := 6) rfl)
theorem m_1279 : Cond.selects RX12 yX12_line yX12_line ∈ BW := iB_BW68 _ (List.mem_of_getElem? (i := 7) rfl)
theorem si_L_98 : SV RL RX12 98 yX12_line cX12_line 4 (some .int) 3 := ⟨⟨m_1277, m_1278, m_1279, m_115, m_1280⟩, rfl, nK_RX12.1, nK_RX12.2, pd_19⟩
theorem dL_law_937 : decode cL_law 937 = .ok (.pop, 1) := by decide +kernel
theorem dL_law_938 : decode cL_law 938 = .ok (.goto 780, 3) := by decide +kernel
theorem dL_law_941 : decode cL_law 941 = .ok (.aload_n 1, 1) := by decide +kernel
theorem dL_law_942 : decode cL_law 942 = .ok (.aload_n 0, 1) := by decide +kernel
theorem dL_law_943 : decode cL_law 943 = .ok (.iload_n 3, 1) := by decide +kernel
theorem dL_law_944 : decode cL_law 944 = .ok (.iconst 1, 1) := by decide +kernel
theorem dL_law_945 : decode cL_law 945 = .ok (.iadd, 1) := by decide +kernel
theorem dL_law_946 : decode cL_law 946 = .ok (.iaload, 1) := by decide +kernel
theorem dL_law_947 : decode cL_law 947 = .ok (.aload_n 0, 1) := by decide +kernel
theorem dL_law_948 : decode cL_law 948 = .ok (.iload_n 3, 1) := by decide +kernel
theorem dL_law_949 : decode cL_law 949 = .ok (.iconst 2, 1) := by decide +kernel
theorem dL_law_950 : decode cL_law 950 = .ok (.iadd, 1) := by decide +kernel
theorem dL_law_951 : decode cL_law 951 = .ok (.iaload, 1) := by decide +kernel
theorem dL_law_952 : decode cL_law 952 = .ok (.invokevirtual 99, 3) := by decide +kernel
theorem m_746 : Cond.code yX11_why cX11_why 5 (some .int) ∈ BW := iB_BW40 _ (List.mem_of_getElem? (i := 6) rfl)
theorem m_743 : Cond.methodLink RL 99 yX11_why ∈ BW := iB_BW40 _ (List.mem_of_getElem? (i := 3) rfl)
theorem m_744 : Cond.instanceMethod yX11_why ∈ BW := iB_BW40 _ (List.mem_of_getElem? (i := 4) rfl)
theorem m_745 : Cond.selects RX11 yX11_why yX11_why ∈ BW := iB_BW40 _ (List.mem_of_getElem? (i := 5) rfl)
theorem si_L_99 : SV RL RX11 99 yX11_why cX11_why 5 (some .int) 2 := ⟨⟨m_743, m_744, m_745, m_102, m_746⟩, rfl, nK_RX11.1, nK_RX11.2, pd_2⟩
theorem dL_law_955 : decode cL_law 955 = .ok (.pop, 1) := by decide +kernel
theorem dL_law_956 : decode cL_law 956 = .ok (.aload_n 2, 1) := by decide +kernel
theorem dL_law_957 : decode cL_law 957 = .ok (.aload_n 0, 1) := by decide +kernel
theorem dL_law_958 : decode cL_law 958 = .ok (.iload_n 3, 1) := by decide +kernel
theorem dL_law_959 : decode cL_law 959 = .ok (.iconst 1, 1) := by decide +kernel
theorem dL_law_960 : decode cL_law 960 = .ok (.iadd, 1) := by decide +kernel
theorem dL_law_961 : decode cL_law 961 = .ok (.iaload, 1) := by decide +kernel
theorem dL_law_962 : decode cL_law 962 = .ok (.aload_n 0, 1) := by decide +kernel
theorem dL_law_963 : decode cL_law 963 = .ok (.iload_n 3, 1) := by decide +kernel
theorem dL_law_964 : decode cL_law 964 = .ok (.iconst 2, 1) := by decide +kernel
theorem dL_law_965 : decode cL_law 965 = .ok (.iadd, 1) := by decide +kernel
theorem dL_law_966 : decode cL_law 966 = .ok (.iaload, 1) := by decide +kernel
theorem dL_law_967 : decode cL_law 967 = .ok (.invokevirtual 102, 3) := by decide +kernel
theorem m_1232 : Cond.code yX12_why cX12_why 5 (some .int) ∈ BW := iB_BW66 _ (List.mem_of_getElem? (i := 0) rfl)
theorem m_1229 : Cond.methodLink RL 102 yX12_why ∈ BW := iB_BW65 _ (List.mem_of_getElem? (i := 17) rfl)
theorem m_1230 : Cond.instanceMethod yX12_why ∈ BW := iB_BW65 _ (List.mem_of_getElem? (i := 18) rfl)
theorem m_1231 : Cond.selects RX12 yX12_why yX12_why ∈ BW := iB_BW65 _ (List.mem_of_getElem? (i := 19) rfl)
theorem si_L_102 : SV RL RX12 102 yX12_why cX12_why 5 (some .int) 2 := ⟨⟨m_1229, m_1230, m_1231, m_115, m_1232⟩, rfl, nK_RX12.1, nK_RX12.2, pd_2⟩
theorem dL_law_970 : decode cL_law 970 = .ok (.pop, 1) := by decide +kernel
theorem dL_law_971 : decode cL_law 971 = .ok (.goto 747, 3) := by decide +kernel
end WR
theorem sm_0_1_8_9_10_11 {a0 a1 a2 a3 a4 a5 a6 a7 a8 a9 a10 a11 : Nat × va_E} {l : va_W} : ([0, 1, 8, 9, 10, 11] : List Nat).map (fun i => (a0 :: a1 :: a2 :: a3 :: a4 :: a5 :: a6 :: a7 :: a8 :: a9 :: a10 :: a11 :: l : va_W)[i]?) = ([a0, a1, a8, a9, a10, a11] : va_W).map some := rfl
theorem fm_0_1_8_9_10_11 {a0 a1 a2 a3 a4 a5 a6 a7 a8 a9 a10 a11 : Nat × va_E} {l : va_W} : ([0, 1, 8, 9, 10, 11] : List Nat).filterMap (fun i => (a0 :: a1 :: a2 :: a3 :: a4 :: a5 :: a6 :: a7 :: a8 :: a9 :: a10 :: a11 :: l : va_W)[i]?) = ([a0, a1, a8, a9, a10, a11] : va_W) := rfl
theorem nd_0_1_8_9_10_11 : va_nd [0, 1, 8, 9, 10, 11] = true := by decide
set_option maxHeartbeats 8000000 in
set_option maxRecDepth 100000 in
theorem law_10 : LAWC 566 := by
  intro p l e s m below meth c b L xs G K A hf xb bb cc sg do9 ru9 ta9 tp9 ro9 ho9 de9 bpersons bpapers bstamps bversions blines bsteps bsayings bfindings bwarnings bquestions bpersonsc bpapersc bstampsc bversionsc blinesc bstepsc bsayingsc bfindingsc bwarningsc bquestionsc cpersons cpapers cstamps cversions clines csteps csayings cfindings cwarnings cquestions cpersonsc cpapersc cstampsc cversionsc clinesc cstepsc csayingsc cfindingsc cwarningsc cquestionsc tby tln tsp tlnc tspc hs hz hi hw hn ht tr9 clk fi la ml mm sl sm clm hd kc0 km0 kc1 km1 kc2 km2 kc3 km3 kc4 km4 kc5 km5 kc6 km6 kc7 km7 kc8 km8 kc9 km9 kc10 km10 kc11 km11 kc12 km12 fc sh rr tc rrc xm nw nk nt nr nm ns nl nc nF np ntr nb nso nsi nit nsh nsf nss nrc kbpersons kbpapers kbstamps kbversions kblines kbsteps kbsayings kbfindings kbwarnings kbquestions kcpersons kcpapers kcstamps kcversions kclines kcsteps kcsayings kcfindings kcwarnings kcquestions kt ks kn kln ksp jr kr ytp yrm yjr ikp td vd vl gp ktd kvd kvl kgp tkd tf9 dk dn dp da dq cl bo le bi r1 rc rh tf tt9 tl tbv asd st9 tol mroundOf mroundFrom mfromHour mtoHour mfrom mto msort misFault mdeep mcoded mlines mbestCost mdealer mnumber mwhose msize misParted fbpersons fbpapers fbstamps fbversions fblines fbsteps fbsayings fbfindings fbwarnings fbquestions fcpersons fcpapers fcstamps fcversions fclines fcsteps fcsayings fcfindings fcwarnings fcquestions fby ftln ftsp fhw fhn ftr fhs fhz fhi fclm ffi fla fml fmm fsl fsm fk0 fk1 fk2 fk3 fk4 fk5 fk6 fk7 fk8 fk9 fk10 fk11 fk12 ffc fsh frr ftc fht y_nw y_nk y_nt y_nr y_nm y_ns y_nl y_nc y_np y_ntr y_nb y_nso y_nsi y_nit y_nsh y_nsf y_nss y_nrc H locs ls ki hC hK hO hX hL hbl hbA hA hA2 hki hf0 hf1 hf2 hf3 hf4 hf5 hf6 hf7 hf8 hf9 hf10 hf11 hf12 i_kbpersons i_kbpapers i_kbstamps i_kbversions i_kblines i_kbsteps i_kbsayings i_kbfindings i_kbwarnings i_kbquestions i_kcpersons i_kcpapers i_kcstamps i_kcversions i_kclines i_kcsteps i_kcsayings i_kcfindings i_kcwarnings i_kcquestions i_kt i_ks i_kn i_kln i_ksp i_jr i_kr i_ytp i_yrm i_yjr i_tp i_cl i_tol i_ikp i_nw i_vw i_nk i_vk i_mb i_b6 i_sz i_sh i_sl i_sp i_sq i_sc i_sk i_epersons i_epapers i_estamps i_esayings i_efindings i_ewarnings i_equestions i_kpersons i_kpapers i_kstamps i_ksayings i_kfindings i_kwarnings i_kquestions hback hP hD hS hl
  refine Kan8 hC (fun hx hb hr hml hB hown hlocks hnm => ?_)
  refine lv_aload_n hx hb dL_law_566 rfl (lv_at2 hl) ?_
  refine lv_aload_n hx hb dL_law_567 rfl (lv_at3 hl) ?_
  refine lv_iload_n hx hb dL_law_568 rfl (lv_at0 hl) ?_
  refine lv_iconst (v := 1) hx hb dL_law_569 (by decide) ?_
  refine lv_iadd hx hb dL_law_570 ?_
  refine eqi (x1 := nI (ki + 1)) (nI_add ki 1) ?_
  refine va_sld hx hb hX hbl hbA hS (lw_in hL hki (by decide)) dL_law_571 ?_
  refine eqi (x1 := xs (ki + 1)) (congrArg xs (lw_cl hL hki (by decide))) ?_
  refine lk_iV hC hK hl hP hD hS hA (p_clash l G xb (xs (ki + 1)) bb cc ikp sg do9 ru9 ta9 tp9 ro9 ho9 de9 bpersons bpapers bstamps bversions blines bsteps bsayings bfindings bwarnings bquestions td vd vl gp clk fi la ml mm sl sm cl clm fclm ffi fla fml fmm fsl fsm hd bo le bi hf kc0 km0 fk0 kc1 km1 fk1 kc2 km2 fk2 kc3 km3 fk3 kc4 km4 fk4 kc5 km5 fk5 kc6 km6 fk6 kc7 km7 fk7 kc8 km8 fk8 kc9 km9 fk9 kc10 km10 fk10 kc11 km11 fk11 kc12 km12 fk12 bpapersc kbpapers fbpapers bstampsc kbstamps fbstamps (i_kbpapers) (i_kbstamps) (i_cl) (hf0) (hf1) (hf2) (hf3) (hf4) (hf5) (hf6) (hf7) (hf8) (hf9) (hf10) (hf11) (hf12)) si_L_57 [0, 1, 57, 58, 59, 60, 61, 62, 63, 64, 65, 66, 67, 68, 69, 70, 71, 72, 73, 74, 75, 76, 77, 78, 79, 80, 81, 82, 83, 84, 85, 86, 87, 88, 89, 90, 91, 92, 93, 4, 5, 6, 7] [0, 1, 39, 40, 41, 42, 2, 3, 4, 5, 6, 7, 8, 9, 10, 11, 12, 13, 14, 15, 16, 17, 18, 19, 20, 21, 22, 23, 24, 25, 26, 27, 28, 29, 30, 31, 32, 33, 34, 35, 36, 37, 38] [true, true, false, false, true, true, true, true, false, false, false, false, false, false, false, false, false, false, false, false, false, false, false, false, false, false, false, false, false, false, false, false, false, false, false, false, false, false, false, false, false, false, false, false, false, false, false, false, false, false, false, false, false, false, false, false, false, true, true, true, true, true, true, true, true, true, true, true, true, true, true, true, true, true, true, true, true, true, true, true, true, true, true, true, true, true, true, true, true, true, true, true, true, true, false, false, false, false, false, false, false, false, false, false, false, false, false, false, false, false, false, false, false, false, false, false, false, false, false, false, false, false, false] rfl rfl (by decide +kernel) (by decide +kernel) rfl rfl rfl rfl rfl (Nat.le_of_ble_eq_true rfl) ⟨Nat.le_of_ble_eq_true rfl, Nat.le_of_ble_eq_true rfl⟩ ⟨by first | exact Nat.le_of_ble_eq_true rfl | omega, by first | exact Nat.le_of_ble_eq_true rfl | omega⟩ dL_law_572 (fun r9380 u9381 H locs hr9380 hP2 hS => ?_)
  obtain ⟨cl19382, gclm9383, gfi9384, gla9385, gml9386, gmm9387, gsl9388, gsm9389, bo19390, le19391, bi19392, gk09393, gk19394, gk29395, gk39396, gk49397, gk59398, gk69399, gk79400, gk89401, gk99402, gk109403, gk119404, gk129405⟩ := u9381
  try dsimp only at hr9380
  refine Kpdr (ws := (WLW G K hf xb bb cc sg do9 ru9 ta9 tp9 ro9 ho9 de9 bpersons bpapers bstamps bversions blines bsteps bsayings bfindings bwarnings bquestions bpersonsc bpapersc bstampsc bversionsc blinesc bstepsc bsayingsc bfindingsc bwarningsc bquestionsc cpersons cpapers cstamps cversions clines csteps csayings cfindings cwarnings cquestions cpersonsc cpapersc cstampsc cversionsc clinesc cstepsc csayingsc cfindingsc cwarningsc cquestionsc tby tln tsp tlnc tspc hs hz hi hw hn ht tr9 clk fi la ml mm sl sm clm hd kc0 km0 kc1 km1 kc2 km2 kc3 km3 kc4 km4 kc5 km5 kc6 km6 kc7 km7 kc8 km8 kc9 km9 kc10 km10 kc11 km11 kc12 km12 fc sh rr tc rrc xm nw nk nt nr nm ns nl nc nF np ntr nb nso nsi nit nsh nsf nss nrc kbpersons kbpapers kbstamps kbversions kblines kbsteps kbsayings kbfindings kbwarnings kbquestions kcpersons kcpapers kcstamps kcversions kclines kcsteps kcsayings kcfindings kcwarnings kcquestions kt ks kn kln ksp jr kr ytp yrm yjr ikp td vd vl gp ktd kvd kvl kgp tkd tf9 dk dn dp da dq cl19382 bo19390 le19391 bi19392 r1 rc rh tf tt9 tl tbv asd st9 tol mroundOf mroundFrom mfromHour mtoHour mfrom mto msort misFault mdeep mcoded mlines mbestCost mdealer mnumber mwhose msize misParted fbpersons fbpapers fbstamps fbversions fblines fbsteps fbsayings fbfindings fbwarnings fbquestions fcpersons fcpapers fcstamps fcversions fclines fcsteps fcsayings fcfindings fcwarnings fcquestions fby ftln ftsp fhw fhn ftr fhs fhz fhi gclm9383 gfi9384 gla9385 gml9386 gmm9387 gsl9388 gsm9389 gk09393 gk19394 gk29395 gk39396 gk49397 gk59398 gk69399 gk79400 gk89401 gk99402 gk109403 gk119404 gk129405 ffc fsh frr ftc fht y_nw y_nk y_nt y_nr y_nm y_ns y_nl y_nc y_np y_ntr y_nb y_nso y_nsi y_nit y_nsh y_nsf y_nss y_nrc)) hP2 (lk_D hD rfl) (fun hP hD => ?_)
  obtain ⟨hr9380, w9406⟩ := hr9380
  refine lv_pop hx hb dL_law_575 rfl ?_
  refine lv_aload_n hx hb dL_law_576 rfl (lv_at1 hl) ?_
  refine lv_aload_n hx hb dL_law_577 rfl (lv_at3 hl) ?_
  refine lv_iload_n hx hb dL_law_578 rfl (lv_at0 hl) ?_
  refine lv_iconst (v := 1) hx hb dL_law_579 (by decide) ?_
  refine lv_iadd hx hb dL_law_580 ?_
  refine eqi (x1 := nI (ki + 1)) (nI_add ki 1) ?_
  refine va_sld hx hb hX hbl hbA hS (lw_in hL hki (by decide)) dL_law_581 ?_
  refine eqi (x1 := xs (ki + 1)) (congrArg xs (lw_cl hL hki (by decide))) ?_
  refine lk_iV hC hK hl hP hD hS hA (r_clash l G xm (xs (ki + 1)) nw nk ikp nt (nI ytp) nr (nI yrm) mroundOf mroundFrom nm mfromHour mtoHour ns mfrom mto msort misFault mdeep mcoded mlines nl nc nF np ntr nb mbestCost nso nsi nit nsh nsf nss nrc (nI yjr) mdealer mnumber mwhose msize misParted y_nw y_nm (i_nw) (i_mb)) si_L_60 [103, 104, 108] [0, 1, 2] [false, false, false, false, false, false, false, false, false, false, false, false, false, false, false, false, false, false, false, false, false, false, false, false, false, false, false, false, false, false, false, false, false, false, false, false, false, false, false, false, false, false, false, false, false, false, false, false, false, false, false, false, false, false, false, false, false, false, false, false, false, false, false, false, false, false, false, false, false, false, false, false, false, false, false, false, false, false, false, false, false, false, false, false, false, false, false, false, false, false, false, false, false, false, false, false, false, false, false, false, false, false, false, true, true, false, false, false, true, false, false, false, false, false, false, false, false, false, false, false, false, false, false] rfl rfl (by decide +kernel) (by decide +kernel) rfl rfl rfl rfl rfl (Nat.le_of_ble_eq_true rfl) ⟨Nat.le_of_ble_eq_true rfl, Nat.le_of_ble_eq_true rfl⟩ ⟨by first | exact Nat.le_of_ble_eq_true rfl | omega, by first | exact Nat.le_of_ble_eq_true rfl | omega⟩ dL_law_582 (fun r9407 gnm9409 H locs hr9407 hP2 hS => ?_)
  try dsimp only at hr9407
  refine Kpdr (ws := (WLW G K hf xb bb cc sg do9 ru9 ta9 tp9 ro9 ho9 de9 bpersons bpapers bstamps bversions blines bsteps bsayings bfindings bwarnings bquestions bpersonsc bpapersc bstampsc bversionsc blinesc bstepsc bsayingsc bfindingsc bwarningsc bquestionsc cpersons cpapers cstamps cversions clines csteps csayings cfindings cwarnings cquestions cpersonsc cpapersc cstampsc cversionsc clinesc cstepsc csayingsc cfindingsc cwarningsc cquestionsc tby tln tsp tlnc tspc hs hz hi hw hn ht tr9 clk fi la ml mm sl sm clm hd kc0 km0 kc1 km1 kc2 km2 kc3 km3 kc4 km4 kc5 km5 kc6 km6 kc7 km7 kc8 km8 kc9 km9 kc10 km10 kc11 km11 kc12 km12 fc sh rr tc rrc xm nw nk nt nr nm ns nl nc nF np ntr nb nso nsi nit nsh nsf nss nrc kbpersons kbpapers kbstamps kbversions kblines kbsteps kbsayings kbfindings kbwarnings kbquestions kcpersons kcpapers kcstamps kcversions kclines kcsteps kcsayings kcfindings kcwarnings kcquestions kt ks kn kln ksp jr kr ytp yrm yjr ikp td vd vl gp ktd kvd kvl kgp tkd tf9 dk dn dp da dq cl19382 bo19390 le19391 bi19392 r1 rc rh tf tt9 tl tbv asd st9 tol mroundOf mroundFrom mfromHour mtoHour mfrom mto msort misFault mdeep mcoded mlines mbestCost mdealer mnumber mwhose msize misParted fbpersons fbpapers fbstamps fbversions fblines fbsteps fbsayings fbfindings fbwarnings fbquestions fcpersons fcpapers fcstamps fcversions fclines fcsteps fcsayings fcfindings fcwarnings fcquestions fby ftln ftsp fhw fhn ftr fhs fhz fhi gclm9383 gfi9384 gla9385 gml9386 gmm9387 gsl9388 gsm9389 gk09393 gk19394 gk29395 gk39396 gk49397 gk59398 gk69399 gk79400 gk89401 gk99402 gk109403 gk119404 gk129405 ffc fsh frr ftc fht y_nw y_nk y_nt y_nr gnm9409 y_ns y_nl y_nc y_np y_ntr y_nb y_nso y_nsi y_nit y_nsh y_nsf y_nss y_nrc)) hP2 (lk_D hD rfl) (fun hP hD => ?_)
  obtain ⟨hr9407, w9410⟩ := hr9407
  refine lv_pop hx hb dL_law_585 rfl ?_
  refine lv_goto (tgt := 1718) hx hb dL_law_586 (by decide) ?_
  exact hback kbpersons kbpapers kbstamps kbversions kblines kbsteps kbsayings kbfindings kbwarnings kbquestions kcpersons kcpapers kcstamps kcversions kclines kcsteps kcsayings kcfindings kcwarnings kcquestions kt ks kn kln ksp jr kr ytp yrm yjr ikp td vd vl gp ktd kvd kvl kgp tkd tf9 dk dn dp da dq cl19382 bo19390 le19391 bi19392 r1 rc rh tf tt9 tl tbv asd st9 tol mroundOf mroundFrom mfromHour mtoHour mfrom mto msort misFault mdeep mcoded mlines mbestCost mdealer mnumber mwhose msize misParted fbpersons fbpapers fbstamps fbversions fblines fbsteps fbsayings fbfindings fbwarnings fbquestions fcpersons fcpapers fcstamps fcversions fclines fcsteps fcsayings fcfindings fcwarnings fcquestions fby ftln ftsp fhw fhn ftr fhs fhz fhi gclm9383 gfi9384 gla9385 gml9386 gmm9387 gsl9388 gsm9389 gk09393 gk19394 gk29395 gk39396 gk49397 gk59398 gk69399 gk79400 gk89401 gk99402 gk109403 gk119404 gk129405 ffc fsh frr ftc fht y_nw y_nk y_nt y_nr gnm9409 y_ns y_nl y_nc y_np y_ntr y_nb y_nso y_nsi y_nit y_nsh y_nsf y_nss y_nrc H locs ls i_kbpersons i_kbpapers i_kbstamps i_kbversions i_kblines i_kbsteps i_kbsayings i_kbfindings i_kbwarnings i_kbquestions i_kcpersons i_kcpapers i_kcstamps i_kcversions i_kclines i_kcsteps i_kcsayings i_kcfindings i_kcwarnings i_kcquestions i_kt i_ks i_kn i_kln i_ksp i_jr i_kr i_ytp i_yrm i_yjr i_tp (by first | assumption | omega | exact Or.inl rfl | exact Or.inr rfl) i_tol i_ikp i_nw i_vw i_nk i_vk (by first | assumption | omega | exact Or.inl rfl | exact Or.inr rfl) i_b6 i_sz i_sh i_sl i_sp i_sq i_sc i_sk i_epersons i_epapers i_estamps i_esayings i_efindings i_ewarnings i_equestions i_kpersons i_kpapers i_kstamps i_ksayings i_kfindings i_kwarnings i_kquestions hP hD hS (lv_sub hl [0, 1, 2, 3] rfl)
set_option maxHeartbeats 8000000 in
set_option maxRecDepth 100000 in
theorem law_11 : LAWC 589 := by
  intro p l e s m below meth c b L xs G K A hf xb bb cc sg do9 ru9 ta9 tp9 ro9 ho9 de9 bpersons bpapers bstamps bversions blines bsteps bsayings bfindings bwarnings bquestions bpersonsc bpapersc bstampsc bversionsc blinesc bstepsc bsayingsc bfindingsc bwarningsc bquestionsc cpersons cpapers cstamps cversions clines csteps csayings cfindings cwarnings cquestions cpersonsc cpapersc cstampsc cversionsc clinesc cstepsc csayingsc cfindingsc cwarningsc cquestionsc tby tln tsp tlnc tspc hs hz hi hw hn ht tr9 clk fi la ml mm sl sm clm hd kc0 km0 kc1 km1 kc2 km2 kc3 km3 kc4 km4 kc5 km5 kc6 km6 kc7 km7 kc8 km8 kc9 km9 kc10 km10 kc11 km11 kc12 km12 fc sh rr tc rrc xm nw nk nt nr nm ns nl nc nF np ntr nb nso nsi nit nsh nsf nss nrc kbpersons kbpapers kbstamps kbversions kblines kbsteps kbsayings kbfindings kbwarnings kbquestions kcpersons kcpapers kcstamps kcversions kclines kcsteps kcsayings kcfindings kcwarnings kcquestions kt ks kn kln ksp jr kr ytp yrm yjr ikp td vd vl gp ktd kvd kvl kgp tkd tf9 dk dn dp da dq cl bo le bi r1 rc rh tf tt9 tl tbv asd st9 tol mroundOf mroundFrom mfromHour mtoHour mfrom mto msort misFault mdeep mcoded mlines mbestCost mdealer mnumber mwhose msize misParted fbpersons fbpapers fbstamps fbversions fblines fbsteps fbsayings fbfindings fbwarnings fbquestions fcpersons fcpapers fcstamps fcversions fclines fcsteps fcsayings fcfindings fcwarnings fcquestions fby ftln ftsp fhw fhn ftr fhs fhz fhi fclm ffi fla fml fmm fsl fsm fk0 fk1 fk2 fk3 fk4 fk5 fk6 fk7 fk8 fk9 fk10 fk11 fk12 ffc fsh frr ftc fht y_nw y_nk y_nt y_nr y_nm y_ns y_nl y_nc y_np y_ntr y_nb y_nso y_nsi y_nit y_nsh y_nsf y_nss y_nrc H locs ls ki hC hK hO hX hL hbl hbA hA hA2 hki hf0 hf1 hf2 hf3 hf4 hf5 hf6 hf7 hf8 hf9 hf10 hf11 hf12 i_kbpersons i_kbpapers i_kbstamps i_kbversions i_kblines i_kbsteps i_kbsayings i_kbfindings i_kbwarnings i_kbquestions i_kcpersons i_kcpapers i_kcstamps i_kcversions i_kclines i_kcsteps i_kcsayings i_kcfindings i_kcwarnings i_kcquestions i_kt i_ks i_kn i_kln i_ksp i_jr i_kr i_ytp i_yrm i_yjr i_tp i_cl i_tol i_ikp i_nw i_vw i_nk i_vk i_mb i_b6 i_sz i_sh i_sl i_sp i_sq i_sc i_sk i_epersons i_epapers i_estamps i_esayings i_efindings i_ewarnings i_equestions i_kpersons i_kpapers i_kstamps i_ksayings i_kfindings i_kwarnings i_kquestions hback hP hD hS hl
  refine Kan8 hC (fun hx hb hr hml hB hown hlocks hnm => ?_)
  refine lv_aload_n hx hb dL_law_589 rfl (lv_at2 hl) ?_
  refine lv_aload_n hx hb dL_law_590 rfl (lv_at3 hl) ?_
  refine lv_iload_n hx hb dL_law_591 rfl (lv_at0 hl) ?_
  refine lv_iconst (v := 1) hx hb dL_law_592 (by decide) ?_
  refine lv_iadd hx hb dL_law_593 ?_
  refine eqi (x1 := nI (ki + 1)) (nI_add ki 1) ?_
  refine va_sld hx hb hX hbl hbA hS (lw_in hL hki (by decide)) dL_law_594 ?_
  refine eqi (x1 := xs (ki + 1)) (congrArg xs (lw_cl hL hki (by decide))) ?_
  refine lv_aload_n hx hb dL_law_595 rfl (lv_at3 hl) ?_
  refine lv_iload_n hx hb dL_law_596 rfl (lv_at0 hl) ?_
  refine lv_iconst (v := 2) hx hb dL_law_597 (by decide) ?_
  refine lv_iadd hx hb dL_law_598 ?_
  refine eqi (x1 := nI (ki + 2)) (nI_add ki 2) ?_
  refine va_sld hx hb hX hbl hbA hS (lw_in hL hki (by decide)) dL_law_599 ?_
  refine eqi (x1 := xs (ki + 2)) (congrArg xs (lw_cl hL hki (by decide))) ?_
  refine lv_if_eq (tgt := 607) hx hb dL_law_600 (by decide) (fun c_600_9411 => ?_) (fun c_600_9411 => ?_)
  · refine lv_iconst (v := 0) hx hb dL_law_607 (by decide) ?_
    refine lk_iV hC hK hl hP hD hS hA (p_span l G xb (xs (ki + 1)) 0 bb cc ikp sg do9 ru9 ta9 tp9 ro9 ho9 de9 bpersons bpapers bstamps bversions blines bsteps bsayings bfindings bwarnings bquestions td vd vl gp clk fi la ml mm sl sm cl clm fclm ffi fla fml fmm fsl fsm bpapersc kbpapers fbpapers bstampsc kbstamps fbstamps (i_kbpapers) (i_kbstamps) (i_cl)) si_L_61 [0, 1, 57, 58, 59, 60, 61, 62, 63, 64, 65, 4, 5, 6, 7] [0, 1, 11, 12, 13, 14, 2, 3, 4, 5, 6, 7, 8, 9, 10] [true, true, false, false, true, true, true, true, false, false, false, false, false, false, false, false, false, false, false, false, false, false, false, false, false, false, false, false, false, false, false, false, false, false, false, false, false, false, false, false, false, false, false, false, false, false, false, false, false, false, false, false, false, false, false, false, false, true, true, true, true, true, true, true, true, true, false, false, false, false, false, false, false, false, false, false, false, false, false, false, false, false, false, false, false, false, false, false, false, false, false, false, false, false, false, false, false, false, false, false, false, false, false, false, false, false, false, false, false, false, false, false, false, false, false, false, false, false, false, false, false, false, false] rfl rfl (by decide +kernel) (by decide +kernel) rfl rfl rfl rfl rfl (Nat.le_of_ble_eq_true rfl) ⟨Nat.le_of_ble_eq_true rfl, Nat.le_of_ble_eq_true rfl⟩ ⟨by first | exact Nat.le_of_ble_eq_true rfl | omega, by first | exact Nat.le_of_ble_eq_true rfl | omega⟩ dL_law_608 (fun r9412 => Ktu8 fun cl19414 gclm9415 gfi9416 gla9417 gml9418 gmm9419 gsl9420 gsm9421 => ?_)
    intro H locs hr9412 hP2 hS
    try dsimp only at hr9412
    refine Kpdr (ws := (WLW G K hf xb bb cc sg do9 ru9 ta9 tp9 ro9 ho9 de9 bpersons bpapers bstamps bversions blines bsteps bsayings bfindings bwarnings bquestions bpersonsc bpapersc bstampsc bversionsc blinesc bstepsc bsayingsc bfindingsc bwarningsc bquestionsc cpersons cpapers cstamps cversions clines csteps csayings cfindings cwarnings cquestions cpersonsc cpapersc cstampsc cversionsc clinesc cstepsc csayingsc cfindingsc cwarningsc cquestionsc tby tln tsp tlnc tspc hs hz hi hw hn ht tr9 clk fi la ml mm sl sm clm hd kc0 km0 kc1 km1 kc2 km2 kc3 km3 kc4 km4 kc5 km5 kc6 km6 kc7 km7 kc8 km8 kc9 km9 kc10 km10 kc11 km11 kc12 km12 fc sh rr tc rrc xm nw nk nt nr nm ns nl nc nF np ntr nb nso nsi nit nsh nsf nss nrc kbpersons kbpapers kbstamps kbversions kblines kbsteps kbsayings kbfindings kbwarnings kbquestions kcpersons kcpapers kcstamps kcversions kclines kcsteps kcsayings kcfindings kcwarnings kcquestions kt ks kn kln ksp jr kr ytp yrm yjr ikp td vd vl gp ktd kvd kvl kgp tkd tf9 dk dn dp da dq cl19414 bo le bi r1 rc rh tf tt9 tl tbv asd st9 tol mroundOf mroundFrom mfromHour mtoHour mfrom mto msort misFault mdeep mcoded mlines mbestCost mdealer mnumber mwhose msize misParted fbpersons fbpapers fbstamps fbversions fblines fbsteps fbsayings fbfindings fbwarnings fbquestions fcpersons fcpapers fcstamps fcversions fclines fcsteps fcsayings fcfindings fcwarnings fcquestions fby ftln ftsp fhw fhn ftr fhs fhz fhi gclm9415 gfi9416 gla9417 gml9418 gmm9419 gsl9420 gsm9421 fk0 fk1 fk2 fk3 fk4 fk5 fk6 fk7 fk8 fk9 fk10 fk11 fk12 ffc fsh frr ftc fht y_nw y_nk y_nt y_nr y_nm y_ns y_nl y_nc y_np y_ntr y_nb y_nso y_nsi y_nit y_nsh y_nsf y_nss y_nrc)) hP2 (lk_D hD rfl) (fun hP hD => ?_)
    obtain ⟨hr9412, w9422⟩ := hr9412
    refine lv_pop hx hb dL_law_611 rfl ?_
    refine lv_aload_n hx hb dL_law_612 rfl (lv_at1 hl) ?_
    refine lv_aload_n hx hb dL_law_613 rfl (lv_at3 hl) ?_
    refine lv_iload_n hx hb dL_law_614 rfl (lv_at0 hl) ?_
    refine lv_iconst (v := 1) hx hb dL_law_615 (by decide) ?_
    refine lv_iadd hx hb dL_law_616 ?_
    refine eqi (x1 := nI (ki + 1)) (nI_add ki 1) ?_
    refine va_sld hx hb hX hbl hbA hS (lw_in hL hki (by decide)) dL_law_617 ?_
    refine eqi (x1 := xs (ki + 1)) (congrArg xs (lw_cl hL hki (by decide))) ?_
    refine lv_aload_n hx hb dL_law_618 rfl (lv_at3 hl) ?_
    refine lv_iload_n hx hb dL_law_619 rfl (lv_at0 hl) ?_
    refine lv_iconst (v := 2) hx hb dL_law_620 (by decide) ?_
    refine lv_iadd hx hb dL_law_621 ?_
    refine eqi (x1 := nI (ki + 2)) (nI_add ki 2) ?_
    refine va_sld hx hb hX hbl hbA hS (lw_in hL hki (by decide)) dL_law_622 ?_
    refine eqi (x1 := xs (ki + 2)) (congrArg xs (lw_cl hL hki (by decide))) ?_
    refine lv_if_eq (tgt := 630) hx hb dL_law_623 (by decide) (fun _ => ?_) (fun c9 => absurd (c_600_9411) c9)
    refine lv_iconst (v := 0) hx hb dL_law_630 (by decide) ?_
    refine lk_iV hC hK hl hP hD hS hA (r_span l G xm (xs (ki + 1)) 0 nw nk ikp nt (nI ytp) nr (nI yrm) mroundOf mroundFrom nm mfromHour mtoHour ns mfrom mto msort misFault mdeep mcoded mlines nl nc nF np ntr nb mbestCost nso nsi nit nsh nsf nss nrc (nI yjr) mdealer mnumber mwhose msize misParted y_nw y_nm (i_nw) (i_mb)) si_L_65 [103, 104, 108] [0, 1, 2] [false, false, false, false, false, false, false, false, false, false, false, false, false, false, false, false, false, false, false, false, false, false, false, false, false, false, false, false, false, false, false, false, false, false, false, false, false, false, false, false, false, false, false, false, false, false, false, false, false, false, false, false, false, false, false, false, false, false, false, false, false, false, false, false, false, false, false, false, false, false, false, false, false, false, false, false, false, false, false, false, false, false, false, false, false, false, false, false, false, false, false, false, false, false, false, false, false, false, false, false, false, false, false, true, true, false, false, false, true, false, false, false, false, false, false, false, false, false, false, false, false, false, false] rfl rfl (by decide +kernel) (by decide +kernel) rfl rfl rfl rfl rfl (Nat.le_of_ble_eq_true rfl) ⟨Nat.le_of_ble_eq_true rfl, Nat.le_of_ble_eq_true rfl⟩ ⟨by first | exact Nat.le_of_ble_eq_true rfl | omega, by first | exact Nat.le_of_ble_eq_true rfl | omega⟩ dL_law_631 (fun r9423 gnm9425 H locs hr9423 hP2 hS => ?_)
    try dsimp only at hr9423
    refine Kpdr (ws := (WLW G K hf xb bb cc sg do9 ru9 ta9 tp9 ro9 ho9 de9 bpersons bpapers bstamps bversions blines bsteps bsayings bfindings bwarnings bquestions bpersonsc bpapersc bstampsc bversionsc blinesc bstepsc bsayingsc bfindingsc bwarningsc bquestionsc cpersons cpapers cstamps cversions clines csteps csayings cfindings cwarnings cquestions cpersonsc cpapersc cstampsc cversionsc clinesc cstepsc csayingsc cfindingsc cwarningsc cquestionsc tby tln tsp tlnc tspc hs hz hi hw hn ht tr9 clk fi la ml mm sl sm clm hd kc0 km0 kc1 km1 kc2 km2 kc3 km3 kc4 km4 kc5 km5 kc6 km6 kc7 km7 kc8 km8 kc9 km9 kc10 km10 kc11 km11 kc12 km12 fc sh rr tc rrc xm nw nk nt nr nm ns nl nc nF np ntr nb nso nsi nit nsh nsf nss nrc kbpersons kbpapers kbstamps kbversions kblines kbsteps kbsayings kbfindings kbwarnings kbquestions kcpersons kcpapers kcstamps kcversions kclines kcsteps kcsayings kcfindings kcwarnings kcquestions kt ks kn kln ksp jr kr ytp yrm yjr ikp td vd vl gp ktd kvd kvl kgp tkd tf9 dk dn dp da dq cl19414 bo le bi r1 rc rh tf tt9 tl tbv asd st9 tol mroundOf mroundFrom mfromHour mtoHour mfrom mto msort misFault mdeep mcoded mlines mbestCost mdealer mnumber mwhose msize misParted fbpersons fbpapers fbstamps fbversions fblines fbsteps fbsayings fbfindings fbwarnings fbquestions fcpersons fcpapers fcstamps fcversions fclines fcsteps fcsayings fcfindings fcwarnings fcquestions fby ftln ftsp fhw fhn ftr fhs fhz fhi gclm9415 gfi9416 gla9417 gml9418 gmm9419 gsl9420 gsm9421 fk0 fk1 fk2 fk3 fk4 fk5 fk6 fk7 fk8 fk9 fk10 fk11 fk12 ffc fsh frr ftc fht y_nw y_nk y_nt y_nr gnm9425 y_ns y_nl y_nc y_np y_ntr y_nb y_nso y_nsi y_nit y_nsh y_nsf y_nss y_nrc)) hP2 (lk_D hD rfl) (fun hP hD => ?_)
    obtain ⟨hr9423, w9426⟩ := hr9423
    refine lv_pop hx hb dL_law_634 rfl ?_
    refine lv_goto (tgt := 1718) hx hb dL_law_635 (by decide) ?_
    exact hback kbpersons kbpapers kbstamps kbversions kblines kbsteps kbsayings kbfindings kbwarnings kbquestions kcpersons kcpapers kcstamps kcversions kclines kcsteps kcsayings kcfindings kcwarnings kcquestions kt ks kn kln ksp jr kr ytp yrm yjr ikp td vd vl gp ktd kvd kvl kgp tkd tf9 dk dn dp da dq cl19414 bo le bi r1 rc rh tf tt9 tl tbv asd st9 tol mroundOf mroundFrom mfromHour mtoHour mfrom mto msort misFault mdeep mcoded mlines mbestCost mdealer mnumber mwhose msize misParted fbpersons fbpapers fbstamps fbversions fblines fbsteps fbsayings fbfindings fbwarnings fbquestions fcpersons fcpapers fcstamps fcversions fclines fcsteps fcsayings fcfindings fcwarnings fcquestions fby ftln ftsp fhw fhn ftr fhs fhz fhi gclm9415 gfi9416 gla9417 gml9418 gmm9419 gsl9420 gsm9421 fk0 fk1 fk2 fk3 fk4 fk5 fk6 fk7 fk8 fk9 fk10 fk11 fk12 ffc fsh frr ftc fht y_nw y_nk y_nt y_nr gnm9425 y_ns y_nl y_nc y_np y_ntr y_nb y_nso y_nsi y_nit y_nsh y_nsf y_nss y_nrc H locs ls i_kbpersons i_kbpapers i_kbstamps i_kbversions i_kblines i_kbsteps i_kbsayings i_kbfindings i_kbwarnings i_kbquestions i_kcpersons i_kcpapers i_kcstamps i_kcversions i_kclines i_kcsteps i_kcsayings i_kcfindings i_kcwarnings i_kcquestions i_kt i_ks i_kn i_kln i_ksp i_jr i_kr i_ytp i_yrm i_yjr i_tp (by first | assumption | omega | exact Or.inl rfl | exact Or.inr rfl) i_tol i_ikp i_nw i_vw i_nk i_vk (by first | assumption | omega | exact Or.inl rfl | exact Or.inr rfl) i_b6 i_sz i_sh i_sl i_sp i_sq i_sc i_sk i_epersons i_epapers i_estamps i_esayings i_efindings i_ewarnings i_equestions i_kpersons i_kpapers i_kstamps i_ksayings i_kfindings i_kwarnings i_kquestions hP hD hS (lv_sub hl [0, 1, 2, 3] rfl)
  · refine lv_iconst (v := 1) hx hb dL_law_603 (by decide) ?_
    refine lv_goto (tgt := 608) hx hb dL_law_604 (by decide) ?_
    refine lk_iV hC hK hl hP hD hS hA (p_span l G xb (xs (ki + 1)) 1 bb cc ikp sg do9 ru9 ta9 tp9 ro9 ho9 de9 bpersons bpapers bstamps bversions blines bsteps bsayings bfindings bwarnings bquestions td vd vl gp clk fi la ml mm sl sm cl clm fclm ffi fla fml fmm fsl fsm bpapersc kbpapers fbpapers bstampsc kbstamps fbstamps (i_kbpapers) (i_kbstamps) (i_cl)) si_L_61 [0, 1, 57, 58, 59, 60, 61, 62, 63, 64, 65, 4, 5, 6, 7] [0, 1, 11, 12, 13, 14, 2, 3, 4, 5, 6, 7, 8, 9, 10] [true, true, false, false, true, true, true, true, false, false, false, false, false, false, false, false, false, false, false, false, false, false, false, false, false, false, false, false, false, false, false, false, false, false, false, false, false, false, false, false, false, false, false, false, false, false, false, false, false, false, false, false, false, false, false, false, false, true, true, true, true, true, true, true, true, true, false, false, false, false, false, false, false, false, false, false, false, false, false, false, false, false, false, false, false, false, false, false, false, false, false, false, false, false, false, false, false, false, false, false, false, false, false, false, false, false, false, false, false, false, false, false, false, false, false, false, false, false, false, false, false, false, false] rfl rfl (by decide +kernel) (by decide +kernel) rfl rfl rfl rfl rfl (Nat.le_of_ble_eq_true rfl) ⟨Nat.le_of_ble_eq_true rfl, Nat.le_of_ble_eq_true rfl⟩ ⟨by first | exact Nat.le_of_ble_eq_true rfl | omega, by first | exact Nat.le_of_ble_eq_true rfl | omega⟩ dL_law_608 (fun r9427 => Ktu8 fun cl19429 gclm9430 gfi9431 gla9432 gml9433 gmm9434 gsl9435 gsm9436 => ?_)
    intro H locs hr9427 hP2 hS
    try dsimp only at hr9427
    refine Kpdr (ws := (WLW G K hf xb bb cc sg do9 ru9 ta9 tp9 ro9 ho9 de9 bpersons bpapers bstamps bversions blines bsteps bsayings bfindings bwarnings bquestions bpersonsc bpapersc bstampsc bversionsc blinesc bstepsc bsayingsc bfindingsc bwarningsc bquestionsc cpersons cpapers cstamps cversions clines csteps csayings cfindings cwarnings cquestions cpersonsc cpapersc cstampsc cversionsc clinesc cstepsc csayingsc cfindingsc cwarningsc cquestionsc tby tln tsp tlnc tspc hs hz hi hw hn ht tr9 clk fi la ml mm sl sm clm hd kc0 km0 kc1 km1 kc2 km2 kc3 km3 kc4 km4 kc5 km5 kc6 km6 kc7 km7 kc8 km8 kc9 km9 kc10 km10 kc11 km11 kc12 km12 fc sh rr tc rrc xm nw nk nt nr nm ns nl nc nF np ntr nb nso nsi nit nsh nsf nss nrc kbpersons kbpapers kbstamps kbversions kblines kbsteps kbsayings kbfindings kbwarnings kbquestions kcpersons kcpapers kcstamps kcversions kclines kcsteps kcsayings kcfindings kcwarnings kcquestions kt ks kn kln ksp jr kr ytp yrm yjr ikp td vd vl gp ktd kvd kvl kgp tkd tf9 dk dn dp da dq cl19429 bo le bi r1 rc rh tf tt9 tl tbv asd st9 tol mroundOf mroundFrom mfromHour mtoHour mfrom mto msort misFault mdeep mcoded mlines mbestCost mdealer mnumber mwhose msize misParted fbpersons fbpapers fbstamps fbversions fblines fbsteps fbsayings fbfindings fbwarnings fbquestions fcpersons fcpapers fcstamps fcversions fclines fcsteps fcsayings fcfindings fcwarnings fcquestions fby ftln ftsp fhw fhn ftr fhs fhz fhi gclm9430 gfi9431 gla9432 gml9433 gmm9434 gsl9435 gsm9436 fk0 fk1 fk2 fk3 fk4 fk5 fk6 fk7 fk8 fk9 fk10 fk11 fk12 ffc fsh frr ftc fht y_nw y_nk y_nt y_nr y_nm y_ns y_nl y_nc y_np y_ntr y_nb y_nso y_nsi y_nit y_nsh y_nsf y_nss y_nrc)) hP2 (lk_D hD rfl) (fun hP hD => ?_)
    obtain ⟨hr9427, w9437⟩ := hr9427
    refine lv_pop hx hb dL_law_611 rfl ?_
    refine lv_aload_n hx hb dL_law_612 rfl (lv_at1 hl) ?_
    refine lv_aload_n hx hb dL_law_613 rfl (lv_at3 hl) ?_
    refine lv_iload_n hx hb dL_law_614 rfl (lv_at0 hl) ?_
    refine lv_iconst (v := 1) hx hb dL_law_615 (by decide) ?_
    refine lv_iadd hx hb dL_law_616 ?_
    refine eqi (x1 := nI (ki + 1)) (nI_add ki 1) ?_
    refine va_sld hx hb hX hbl hbA hS (lw_in hL hki (by decide)) dL_law_617 ?_
    refine eqi (x1 := xs (ki + 1)) (congrArg xs (lw_cl hL hki (by decide))) ?_
    refine lv_aload_n hx hb dL_law_618 rfl (lv_at3 hl) ?_
    refine lv_iload_n hx hb dL_law_619 rfl (lv_at0 hl) ?_
    refine lv_iconst (v := 2) hx hb dL_law_620 (by decide) ?_
    refine lv_iadd hx hb dL_law_621 ?_
    refine eqi (x1 := nI (ki + 2)) (nI_add ki 2) ?_
    refine va_sld hx hb hX hbl hbA hS (lw_in hL hki (by decide)) dL_law_622 ?_
    refine eqi (x1 := xs (ki + 2)) (congrArg xs (lw_cl hL hki (by decide))) ?_
    refine lv_if_eq (tgt := 630) hx hb dL_law_623 (by decide) (fun c9 => absurd c9 (c_600_9411)) (fun _ => ?_)
    refine lv_iconst (v := 1) hx hb dL_law_626 (by decide) ?_
    refine lv_goto (tgt := 631) hx hb dL_law_627 (by decide) ?_
    refine lk_iV hC hK hl hP hD hS hA (r_span l G xm (xs (ki + 1)) 1 nw nk ikp nt (nI ytp) nr (nI yrm) mroundOf mroundFrom nm mfromHour mtoHour ns mfrom mto msort misFault mdeep mcoded mlines nl nc nF np ntr nb mbestCost nso nsi nit nsh nsf nss nrc (nI yjr) mdealer mnumber mwhose msize misParted y_nw y_nm (i_nw) (i_mb)) si_L_65 [103, 104, 108] [0, 1, 2] [false, false, false, false, false, false, false, false, false, false, false, false, false, false, false, false, false, false, false, false, false, false, false, false, false, false, false, false, false, false, false, false, false, false, false, false, false, false, false, false, false, false, false, false, false, false, false, false, false, false, false, false, false, false, false, false, false, false, false, false, false, false, false, false, false, false, false, false, false, false, false, false, false, false, false, false, false, false, false, false, false, false, false, false, false, false, false, false, false, false, false, false, false, false, false, false, false, false, false, false, false, false, false, true, true, false, false, false, true, false, false, false, false, false, false, false, false, false, false, false, false, false, false] rfl rfl (by decide +kernel) (by decide +kernel) rfl rfl rfl rfl rfl (Nat.le_of_ble_eq_true rfl) ⟨Nat.le_of_ble_eq_true rfl, Nat.le_of_ble_eq_true rfl⟩ ⟨by first | exact Nat.le_of_ble_eq_true rfl | omega, by first | exact Nat.le_of_ble_eq_true rfl | omega⟩ dL_law_631 (fun r9438 gnm9440 H locs hr9438 hP2 hS => ?_)
    try dsimp only at hr9438
    refine Kpdr (ws := (WLW G K hf xb bb cc sg do9 ru9 ta9 tp9 ro9 ho9 de9 bpersons bpapers bstamps bversions blines bsteps bsayings bfindings bwarnings bquestions bpersonsc bpapersc bstampsc bversionsc blinesc bstepsc bsayingsc bfindingsc bwarningsc bquestionsc cpersons cpapers cstamps cversions clines csteps csayings cfindings cwarnings cquestions cpersonsc cpapersc cstampsc cversionsc clinesc cstepsc csayingsc cfindingsc cwarningsc cquestionsc tby tln tsp tlnc tspc hs hz hi hw hn ht tr9 clk fi la ml mm sl sm clm hd kc0 km0 kc1 km1 kc2 km2 kc3 km3 kc4 km4 kc5 km5 kc6 km6 kc7 km7 kc8 km8 kc9 km9 kc10 km10 kc11 km11 kc12 km12 fc sh rr tc rrc xm nw nk nt nr nm ns nl nc nF np ntr nb nso nsi nit nsh nsf nss nrc kbpersons kbpapers kbstamps kbversions kblines kbsteps kbsayings kbfindings kbwarnings kbquestions kcpersons kcpapers kcstamps kcversions kclines kcsteps kcsayings kcfindings kcwarnings kcquestions kt ks kn kln ksp jr kr ytp yrm yjr ikp td vd vl gp ktd kvd kvl kgp tkd tf9 dk dn dp da dq cl19429 bo le bi r1 rc rh tf tt9 tl tbv asd st9 tol mroundOf mroundFrom mfromHour mtoHour mfrom mto msort misFault mdeep mcoded mlines mbestCost mdealer mnumber mwhose msize misParted fbpersons fbpapers fbstamps fbversions fblines fbsteps fbsayings fbfindings fbwarnings fbquestions fcpersons fcpapers fcstamps fcversions fclines fcsteps fcsayings fcfindings fcwarnings fcquestions fby ftln ftsp fhw fhn ftr fhs fhz fhi gclm9430 gfi9431 gla9432 gml9433 gmm9434 gsl9435 gsm9436 fk0 fk1 fk2 fk3 fk4 fk5 fk6 fk7 fk8 fk9 fk10 fk11 fk12 ffc fsh frr ftc fht y_nw y_nk y_nt y_nr gnm9440 y_ns y_nl y_nc y_np y_ntr y_nb y_nso y_nsi y_nit y_nsh y_nsf y_nss y_nrc)) hP2 (lk_D hD rfl) (fun hP hD => ?_)
    obtain ⟨hr9438, w9441⟩ := hr9438
    refine lv_pop hx hb dL_law_634 rfl ?_
    refine lv_goto (tgt := 1718) hx hb dL_law_635 (by decide) ?_
    exact hback kbpersons kbpapers kbstamps kbversions kblines kbsteps kbsayings kbfindings kbwarnings kbquestions kcpersons kcpapers kcstamps kcversions kclines kcsteps kcsayings kcfindings kcwarnings kcquestions kt ks kn kln ksp jr kr ytp yrm yjr ikp td vd vl gp ktd kvd kvl kgp tkd tf9 dk dn dp da dq cl19429 bo le bi r1 rc rh tf tt9 tl tbv asd st9 tol mroundOf mroundFrom mfromHour mtoHour mfrom mto msort misFault mdeep mcoded mlines mbestCost mdealer mnumber mwhose msize misParted fbpersons fbpapers fbstamps fbversions fblines fbsteps fbsayings fbfindings fbwarnings fbquestions fcpersons fcpapers fcstamps fcversions fclines fcsteps fcsayings fcfindings fcwarnings fcquestions fby ftln ftsp fhw fhn ftr fhs fhz fhi gclm9430 gfi9431 gla9432 gml9433 gmm9434 gsl9435 gsm9436 fk0 fk1 fk2 fk3 fk4 fk5 fk6 fk7 fk8 fk9 fk10 fk11 fk12 ffc fsh frr ftc fht y_nw y_nk y_nt y_nr gnm9440 y_ns y_nl y_nc y_np y_ntr y_nb y_nso y_nsi y_nit y_nsh y_nsf y_nss y_nrc H locs ls i_kbpersons i_kbpapers i_kbstamps i_kbversions i_kblines i_kbsteps i_kbsayings i_kbfindings i_kbwarnings i_kbquestions i_kcpersons i_kcpapers i_kcstamps i_kcversions i_kclines i_kcsteps i_kcsayings i_kcfindings i_kcwarnings i_kcquestions i_kt i_ks i_kn i_kln i_ksp i_jr i_kr i_ytp i_yrm i_yjr i_tp (by first | assumption | omega | exact Or.inl rfl | exact Or.inr rfl) i_tol i_ikp i_nw i_vw i_nk i_vk (by first | assumption | omega | exact Or.inl rfl | exact Or.inr rfl) i_b6 i_sz i_sh i_sl i_sp i_sq i_sc i_sk i_epersons i_epapers i_estamps i_esayings i_efindings i_ewarnings i_equestions i_kpersons i_kpapers i_kstamps i_ksayings i_kfindings i_kwarnings i_kquestions hP hD hS (lv_sub hl [0, 1, 2, 3] rfl)
set_option maxHeartbeats 8000000 in
set_option maxRecDepth 100000 in
theorem law_12 : LAWC 638 := by
  intro p l e s m below meth c b L xs G K A hf xb bb cc sg do9 ru9 ta9 tp9 ro9 ho9 de9 bpersons bpapers bstamps bversions blines bsteps bsayings bfindings bwarnings bquestions bpersonsc bpapersc bstampsc bversionsc blinesc bstepsc bsayingsc bfindingsc bwarningsc bquestionsc cpersons cpapers cstamps cversions clines csteps csayings cfindings cwarnings cquestions cpersonsc cpapersc cstampsc cversionsc clinesc cstepsc csayingsc cfindingsc cwarningsc cquestionsc tby tln tsp tlnc tspc hs hz hi hw hn ht tr9 clk fi la ml mm sl sm clm hd kc0 km0 kc1 km1 kc2 km2 kc3 km3 kc4 km4 kc5 km5 kc6 km6 kc7 km7 kc8 km8 kc9 km9 kc10 km10 kc11 km11 kc12 km12 fc sh rr tc rrc xm nw nk nt nr nm ns nl nc nF np ntr nb nso nsi nit nsh nsf nss nrc kbpersons kbpapers kbstamps kbversions kblines kbsteps kbsayings kbfindings kbwarnings kbquestions kcpersons kcpapers kcstamps kcversions kclines kcsteps kcsayings kcfindings kcwarnings kcquestions kt ks kn kln ksp jr kr ytp yrm yjr ikp td vd vl gp ktd kvd kvl kgp tkd tf9 dk dn dp da dq cl bo le bi r1 rc rh tf tt9 tl tbv asd st9 tol mroundOf mroundFrom mfromHour mtoHour mfrom mto msort misFault mdeep mcoded mlines mbestCost mdealer mnumber mwhose msize misParted fbpersons fbpapers fbstamps fbversions fblines fbsteps fbsayings fbfindings fbwarnings fbquestions fcpersons fcpapers fcstamps fcversions fclines fcsteps fcsayings fcfindings fcwarnings fcquestions fby ftln ftsp fhw fhn ftr fhs fhz fhi fclm ffi fla fml fmm fsl fsm fk0 fk1 fk2 fk3 fk4 fk5 fk6 fk7 fk8 fk9 fk10 fk11 fk12 ffc fsh frr ftc fht y_nw y_nk y_nt y_nr y_nm y_ns y_nl y_nc y_np y_ntr y_nb y_nso y_nsi y_nit y_nsh y_nsf y_nss y_nrc H locs ls ki hC hK hO hX hL hbl hbA hA hA2 hki hf0 hf1 hf2 hf3 hf4 hf5 hf6 hf7 hf8 hf9 hf10 hf11 hf12 i_kbpersons i_kbpapers i_kbstamps i_kbversions i_kblines i_kbsteps i_kbsayings i_kbfindings i_kbwarnings i_kbquestions i_kcpersons i_kcpapers i_kcstamps i_kcversions i_kclines i_kcsteps i_kcsayings i_kcfindings i_kcwarnings i_kcquestions i_kt i_ks i_kn i_kln i_ksp i_jr i_kr i_ytp i_yrm i_yjr i_tp i_cl i_tol i_ikp i_nw i_vw i_nk i_vk i_mb i_b6 i_sz i_sh i_sl i_sp i_sq i_sc i_sk i_epersons i_epapers i_estamps i_esayings i_efindings i_ewarnings i_equestions i_kpersons i_kpapers i_kstamps i_ksayings i_kfindings i_kwarnings i_kquestions hback hP hD hS hl
  refine Kan8 hC (fun hx hb hr hml hB hown hlocks hnm => ?_)
  refine lv_aload_n hx hb dL_law_638 rfl (lv_at2 hl) ?_
  refine lv_aload_n hx hb dL_law_639 rfl (lv_at3 hl) ?_
  refine lv_iload_n hx hb dL_law_640 rfl (lv_at0 hl) ?_
  refine lv_iconst (v := 1) hx hb dL_law_641 (by decide) ?_
  refine lv_iadd hx hb dL_law_642 ?_
  refine eqi (x1 := nI (ki + 1)) (nI_add ki 1) ?_
  refine va_sld hx hb hX hbl hbA hS (lw_in hL hki (by decide)) dL_law_643 ?_
  refine eqi (x1 := xs (ki + 1)) (congrArg xs (lw_cl hL hki (by decide))) ?_
  refine lv_aload_n hx hb dL_law_644 rfl (lv_at3 hl) ?_
  refine lv_iload_n hx hb dL_law_645 rfl (lv_at0 hl) ?_
  refine lv_iconst (v := 2) hx hb dL_law_646 (by decide) ?_
  refine lv_iadd hx hb dL_law_647 ?_
  refine eqi (x1 := nI (ki + 2)) (nI_add ki 2) ?_
  refine va_sld hx hb hX hbl hbA hS (lw_in hL hki (by decide)) dL_law_648 ?_
  refine eqi (x1 := xs (ki + 2)) (congrArg xs (lw_cl hL hki (by decide))) ?_
  refine lv_if_eq (tgt := 656) hx hb dL_law_649 (by decide) (fun c_649_9442 => ?_) (fun c_649_9442 => ?_)
  · refine lv_iconst (v := 0) hx hb dL_law_656 (by decide) ?_
    refine lk_iV hC hK hl hP hD hS hA (p_sent l G xb (xs (ki + 1)) 0 bb cc ikp sg do9 ru9 ta9 tp9 ro9 ho9 de9 bpersons bpapers bstamps bversions blines bsteps bsayings bfindings bwarnings bquestions td vd vl gp clk fi la ml mm sl sm cl clm fclm ffi fla fml fmm fsl fsm bpapersc kbpapers fbpapers bstampsc kbstamps fbstamps (i_kbpapers) (i_kbstamps) (i_cl)) si_L_66 [0, 1, 57, 58, 59, 60, 61, 62, 63, 64, 65, 4, 5, 6, 7] [0, 1, 11, 12, 13, 14, 2, 3, 4, 5, 6, 7, 8, 9, 10] [true, true, false, false, true, true, true, true, false, false, false, false, false, false, false, false, false, false, false, false, false, false, false, false, false, false, false, false, false, false, false, false, false, false, false, false, false, false, false, false, false, false, false, false, false, false, false, false, false, false, false, false, false, false, false, false, false, true, true, true, true, true, true, true, true, true, false, false, false, false, false, false, false, false, false, false, false, false, false, false, false, false, false, false, false, false, false, false, false, false, false, false, false, false, false, false, false, false, false, false, false, false, false, false, false, false, false, false, false, false, false, false, false, false, false, false, false, false, false, false, false, false, false] rfl rfl (by decide +kernel) (by decide +kernel) rfl rfl rfl rfl rfl (Nat.le_of_ble_eq_true rfl) ⟨Nat.le_of_ble_eq_true rfl, Nat.le_of_ble_eq_true rfl⟩ ⟨by first | exact Nat.le_of_ble_eq_true rfl | omega, by first | exact Nat.le_of_ble_eq_true rfl | omega⟩ dL_law_657 (fun r9443 => Ktu8 fun cl19445 gclm9446 gfi9447 gla9448 gml9449 gmm9450 gsl9451 gsm9452 => ?_)
    intro H locs hr9443 hP2 hS
    try dsimp only at hr9443
    refine Kpdr (ws := (WLW G K hf xb bb cc sg do9 ru9 ta9 tp9 ro9 ho9 de9 bpersons bpapers bstamps bversions blines bsteps bsayings bfindings bwarnings bquestions bpersonsc bpapersc bstampsc bversionsc blinesc bstepsc bsayingsc bfindingsc bwarningsc bquestionsc cpersons cpapers cstamps cversions clines csteps csayings cfindings cwarnings cquestions cpersonsc cpapersc cstampsc cversionsc clinesc cstepsc csayingsc cfindingsc cwarningsc cquestionsc tby tln tsp tlnc tspc hs hz hi hw hn ht tr9 clk fi la ml mm sl sm clm hd kc0 km0 kc1 km1 kc2 km2 kc3 km3 kc4 km4 kc5 km5 kc6 km6 kc7 km7 kc8 km8 kc9 km9 kc10 km10 kc11 km11 kc12 km12 fc sh rr tc rrc xm nw nk nt nr nm ns nl nc nF np ntr nb nso nsi nit nsh nsf nss nrc kbpersons kbpapers kbstamps kbversions kblines kbsteps kbsayings kbfindings kbwarnings kbquestions kcpersons kcpapers kcstamps kcversions kclines kcsteps kcsayings kcfindings kcwarnings kcquestions kt ks kn kln ksp jr kr ytp yrm yjr ikp td vd vl gp ktd kvd kvl kgp tkd tf9 dk dn dp da dq cl19445 bo le bi r1 rc rh tf tt9 tl tbv asd st9 tol mroundOf mroundFrom mfromHour mtoHour mfrom mto msort misFault mdeep mcoded mlines mbestCost mdealer mnumber mwhose msize misParted fbpersons fbpapers fbstamps fbversions fblines fbsteps fbsayings fbfindings fbwarnings fbquestions fcpersons fcpapers fcstamps fcversions fclines fcsteps fcsayings fcfindings fcwarnings fcquestions fby ftln ftsp fhw fhn ftr fhs fhz fhi gclm9446 gfi9447 gla9448 gml9449 gmm9450 gsl9451 gsm9452 fk0 fk1 fk2 fk3 fk4 fk5 fk6 fk7 fk8 fk9 fk10 fk11 fk12 ffc fsh frr ftc fht y_nw y_nk y_nt y_nr y_nm y_ns y_nl y_nc y_np y_ntr y_nb y_nso y_nsi y_nit y_nsh y_nsf y_nss y_nrc)) hP2 (lk_D hD rfl) (fun hP hD => ?_)
    obtain ⟨hr9443, w9453⟩ := hr9443
    refine lv_pop hx hb dL_law_660 rfl ?_
    refine lv_aload_n hx hb dL_law_661 rfl (lv_at1 hl) ?_
    refine lv_aload_n hx hb dL_law_662 rfl (lv_at3 hl) ?_
    refine lv_iload_n hx hb dL_law_663 rfl (lv_at0 hl) ?_
    refine lv_iconst (v := 1) hx hb dL_law_664 (by decide) ?_
    refine lv_iadd hx hb dL_law_665 ?_
    refine eqi (x1 := nI (ki + 1)) (nI_add ki 1) ?_
    refine va_sld hx hb hX hbl hbA hS (lw_in hL hki (by decide)) dL_law_666 ?_
    refine eqi (x1 := xs (ki + 1)) (congrArg xs (lw_cl hL hki (by decide))) ?_
    refine lv_aload_n hx hb dL_law_667 rfl (lv_at3 hl) ?_
    refine lv_iload_n hx hb dL_law_668 rfl (lv_at0 hl) ?_
    refine lv_iconst (v := 2) hx hb dL_law_669 (by decide) ?_
    refine lv_iadd hx hb dL_law_670 ?_
    refine eqi (x1 := nI (ki + 2)) (nI_add ki 2) ?_
    refine va_sld hx hb hX hbl hbA hS (lw_in hL hki (by decide)) dL_law_671 ?_
    refine eqi (x1 := xs (ki + 2)) (congrArg xs (lw_cl hL hki (by decide))) ?_
    refine lv_if_eq (tgt := 679) hx hb dL_law_672 (by decide) (fun _ => ?_) (fun c9 => absurd (c_649_9442) c9)
    refine lv_iconst (v := 0) hx hb dL_law_679 (by decide) ?_
    refine lk_iV hC hK hl hP hD hS hA (r_sent l G xm (xs (ki + 1)) 0 nw nk ikp nt (nI ytp) nr (nI yrm) mroundOf mroundFrom nm mfromHour mtoHour ns mfrom mto msort misFault mdeep mcoded mlines nl nc nF np ntr nb mbestCost nso nsi nit nsh nsf nss nrc (nI yjr) mdealer mnumber mwhose msize misParted y_nw y_nm (i_nw) (i_mb)) si_L_69 [103, 104, 108] [0, 1, 2] [false, false, false, false, false, false, false, false, false, false, false, false, false, false, false, false, false, false, false, false, false, false, false, false, false, false, false, false, false, false, false, false, false, false, false, false, false, false, false, false, false, false, false, false, false, false, false, false, false, false, false, false, false, false, false, false, false, false, false, false, false, false, false, false, false, false, false, false, false, false, false, false, false, false, false, false, false, false, false, false, false, false, false, false, false, false, false, false, false, false, false, false, false, false, false, false, false, false, false, false, false, false, false, true, true, false, false, false, true, false, false, false, false, false, false, false, false, false, false, false, false, false, false] rfl rfl (by decide +kernel) (by decide +kernel) rfl rfl rfl rfl rfl (Nat.le_of_ble_eq_true rfl) ⟨Nat.le_of_ble_eq_true rfl, Nat.le_of_ble_eq_true rfl⟩ ⟨by first | exact Nat.le_of_ble_eq_true rfl | omega, by first | exact Nat.le_of_ble_eq_true rfl | omega⟩ dL_law_680 (fun r9454 => Ktu3 fun fh19456 th19457 gnm9458 => ?_)
    intro H locs hr9454 hP2 hS
    try dsimp only at hr9454
    refine Kpdr (ws := (WLW G K hf xb bb cc sg do9 ru9 ta9 tp9 ro9 ho9 de9 bpersons bpapers bstamps bversions blines bsteps bsayings bfindings bwarnings bquestions bpersonsc bpapersc bstampsc bversionsc blinesc bstepsc bsayingsc bfindingsc bwarningsc bquestionsc cpersons cpapers cstamps cversions clines csteps csayings cfindings cwarnings cquestions cpersonsc cpapersc cstampsc cversionsc clinesc cstepsc csayingsc cfindingsc cwarningsc cquestionsc tby tln tsp tlnc tspc hs hz hi hw hn ht tr9 clk fi la ml mm sl sm clm hd kc0 km0 kc1 km1 kc2 km2 kc3 km3 kc4 km4 kc5 km5 kc6 km6 kc7 km7 kc8 km8 kc9 km9 kc10 km10 kc11 km11 kc12 km12 fc sh rr tc rrc xm nw nk nt nr nm ns nl nc nF np ntr nb nso nsi nit nsh nsf nss nrc kbpersons kbpapers kbstamps kbversions kblines kbsteps kbsayings kbfindings kbwarnings kbquestions kcpersons kcpapers kcstamps kcversions kclines kcsteps kcsayings kcfindings kcwarnings kcquestions kt ks kn kln ksp jr kr ytp yrm yjr ikp td vd vl gp ktd kvd kvl kgp tkd tf9 dk dn dp da dq cl19445 bo le bi r1 rc rh tf tt9 tl tbv asd st9 tol mroundOf mroundFrom fh19456 th19457 mfrom mto msort misFault mdeep mcoded mlines mbestCost mdealer mnumber mwhose msize misParted fbpersons fbpapers fbstamps fbversions fblines fbsteps fbsayings fbfindings fbwarnings fbquestions fcpersons fcpapers fcstamps fcversions fclines fcsteps fcsayings fcfindings fcwarnings fcquestions fby ftln ftsp fhw fhn ftr fhs fhz fhi gclm9446 gfi9447 gla9448 gml9449 gmm9450 gsl9451 gsm9452 fk0 fk1 fk2 fk3 fk4 fk5 fk6 fk7 fk8 fk9 fk10 fk11 fk12 ffc fsh frr ftc fht y_nw y_nk y_nt y_nr gnm9458 y_ns y_nl y_nc y_np y_ntr y_nb y_nso y_nsi y_nit y_nsh y_nsf y_nss y_nrc)) hP2 (lk_D hD rfl) (fun hP hD => ?_)
    obtain ⟨hr9454, w9459⟩ := hr9454
    refine lv_pop hx hb dL_law_683 rfl ?_
    refine lv_goto (tgt := 1718) hx hb dL_law_684 (by decide) ?_
    exact hback kbpersons kbpapers kbstamps kbversions kblines kbsteps kbsayings kbfindings kbwarnings kbquestions kcpersons kcpapers kcstamps kcversions kclines kcsteps kcsayings kcfindings kcwarnings kcquestions kt ks kn kln ksp jr kr ytp yrm yjr ikp td vd vl gp ktd kvd kvl kgp tkd tf9 dk dn dp da dq cl19445 bo le bi r1 rc rh tf tt9 tl tbv asd st9 tol mroundOf mroundFrom fh19456 th19457 mfrom mto msort misFault mdeep mcoded mlines mbestCost mdealer mnumber mwhose msize misParted fbpersons fbpapers fbstamps fbversions fblines fbsteps fbsayings fbfindings fbwarnings fbquestions fcpersons fcpapers fcstamps fcversions fclines fcsteps fcsayings fcfindings fcwarnings fcquestions fby ftln ftsp fhw fhn ftr fhs fhz fhi gclm9446 gfi9447 gla9448 gml9449 gmm9450 gsl9451 gsm9452 fk0 fk1 fk2 fk3 fk4 fk5 fk6 fk7 fk8 fk9 fk10 fk11 fk12 ffc fsh frr ftc fht y_nw y_nk y_nt y_nr gnm9458 y_ns y_nl y_nc y_np y_ntr y_nb y_nso y_nsi y_nit y_nsh y_nsf y_nss y_nrc H locs ls i_kbpersons i_kbpapers i_kbstamps i_kbversions i_kblines i_kbsteps i_kbsayings i_kbfindings i_kbwarnings i_kbquestions i_kcpersons i_kcpapers i_kcstamps i_kcversions i_kclines i_kcsteps i_kcsayings i_kcfindings i_kcwarnings i_kcquestions i_kt i_ks i_kn i_kln i_ksp i_jr i_kr i_ytp i_yrm i_yjr i_tp (by first | assumption | omega | exact Or.inl rfl | exact Or.inr rfl) i_tol i_ikp i_nw i_vw i_nk i_vk (by first | assumption | omega | exact Or.inl rfl | exact Or.inr rfl) i_b6 i_sz i_sh i_sl i_sp i_sq i_sc i_sk i_epersons i_epapers i_estamps i_esayings i_efindings i_ewarnings i_equestions i_kpersons i_kpapers i_kstamps i_ksayings i_kfindings i_kwarnings i_kquestions hP hD hS (lv_sub hl [0, 1, 2, 3] rfl)
  · refine lv_iconst (v := 1) hx hb dL_law_652 (by decide) ?_
    refine lv_goto (tgt := 657) hx hb dL_law_653 (by decide) ?_
    refine lk_iV hC hK hl hP hD hS hA (p_sent l G xb (xs (ki + 1)) 1 bb cc ikp sg do9 ru9 ta9 tp9 ro9 ho9 de9 bpersons bpapers bstamps bversions blines bsteps bsayings bfindings bwarnings bquestions td vd vl gp clk fi la ml mm sl sm cl clm fclm ffi fla fml fmm fsl fsm bpapersc kbpapers fbpapers bstampsc kbstamps fbstamps (i_kbpapers) (i_kbstamps) (i_cl)) si_L_66 [0, 1, 57, 58, 59, 60, 61, 62, 63, 64, 65, 4, 5, 6, 7] [0, 1, 11, 12, 13, 14, 2, 3, 4, 5, 6, 7, 8, 9, 10] [true, true, false, false, true, true, true, true, false, false, false, false, false, false, false, false, false, false, false, false, false, false, false, false, false, false, false, false, false, false, false, false, false, false, false, false, false, false, false, false, false, false, false, false, false, false, false, false, false, false, false, false, false, false, false, false, false, true, true, true, true, true, true, true, true, true, false, false, false, false, false, false, false, false, false, false, false, false, false, false, false, false, false, false, false, false, false, false, false, false, false, false, false, false, false, false, false, false, false, false, false, false, false, false, false, false, false, false, false, false, false, false, false, false, false, false, false, false, false, false, false, false, false] rfl rfl (by decide +kernel) (by decide +kernel) rfl rfl rfl rfl rfl (Nat.le_of_ble_eq_true rfl) ⟨Nat.le_of_ble_eq_true rfl, Nat.le_of_ble_eq_true rfl⟩ ⟨by first | exact Nat.le_of_ble_eq_true rfl | omega, by first | exact Nat.le_of_ble_eq_true rfl | omega⟩ dL_law_657 (fun r9460 => Ktu8 fun cl19462 gclm9463 gfi9464 gla9465 gml9466 gmm9467 gsl9468 gsm9469 => ?_)
    intro H locs hr9460 hP2 hS
    try dsimp only at hr9460
    refine Kpdr (ws := (WLW G K hf xb bb cc sg do9 ru9 ta9 tp9 ro9 ho9 de9 bpersons bpapers bstamps bversions blines bsteps bsayings bfindings bwarnings bquestions bpersonsc bpapersc bstampsc bversionsc blinesc bstepsc bsayingsc bfindingsc bwarningsc bquestionsc cpersons cpapers cstamps cversions clines csteps csayings cfindings cwarnings cquestions cpersonsc cpapersc cstampsc cversionsc clinesc cstepsc csayingsc cfindingsc cwarningsc cquestionsc tby tln tsp tlnc tspc hs hz hi hw hn ht tr9 clk fi la ml mm sl sm clm hd kc0 km0 kc1 km1 kc2 km2 kc3 km3 kc4 km4 kc5 km5 kc6 km6 kc7 km7 kc8 km8 kc9 km9 kc10 km10 kc11 km11 kc12 km12 fc sh rr tc rrc xm nw nk nt nr nm ns nl nc nF np ntr nb nso nsi nit nsh nsf nss nrc kbpersons kbpapers kbstamps kbversions kblines kbsteps kbsayings kbfindings kbwarnings kbquestions kcpersons kcpapers kcstamps kcversions kclines kcsteps kcsayings kcfindings kcwarnings kcquestions kt ks kn kln ksp jr kr ytp yrm yjr ikp td vd vl gp ktd kvd kvl kgp tkd tf9 dk dn dp da dq cl19462 bo le bi r1 rc rh tf tt9 tl tbv asd st9 tol mroundOf mroundFrom mfromHour mtoHour mfrom mto msort misFault mdeep mcoded mlines mbestCost mdealer mnumber mwhose msize misParted fbpersons fbpapers fbstamps fbversions fblines fbsteps fbsayings fbfindings fbwarnings fbquestions fcpersons fcpapers fcstamps fcversions fclines fcsteps fcsayings fcfindings fcwarnings fcquestions fby ftln ftsp fhw fhn ftr fhs fhz fhi gclm9463 gfi9464 gla9465 gml9466 gmm9467 gsl9468 gsm9469 fk0 fk1 fk2 fk3 fk4 fk5 fk6 fk7 fk8 fk9 fk10 fk11 fk12 ffc fsh frr ftc fht y_nw y_nk y_nt y_nr y_nm y_ns y_nl y_nc y_np y_ntr y_nb y_nso y_nsi y_nit y_nsh y_nsf y_nss y_nrc)) hP2 (lk_D hD rfl) (fun hP hD => ?_)
    obtain ⟨hr9460, w9470⟩ := hr9460
    refine lv_pop hx hb dL_law_660 rfl ?_
    refine lv_aload_n hx hb dL_law_661 rfl (lv_at1 hl) ?_
    refine lv_aload_n hx hb dL_law_662 rfl (lv_at3 hl) ?_
    refine lv_iload_n hx hb dL_law_663 rfl (lv_at0 hl) ?_
    refine lv_iconst (v := 1) hx hb dL_law_664 (by decide) ?_
    refine lv_iadd hx hb dL_law_665 ?_
    refine eqi (x1 := nI (ki + 1)) (nI_add ki 1) ?_
    refine va_sld hx hb hX hbl hbA hS (lw_in hL hki (by decide)) dL_law_666 ?_
    refine eqi (x1 := xs (ki + 1)) (congrArg xs (lw_cl hL hki (by decide))) ?_
    refine lv_aload_n hx hb dL_law_667 rfl (lv_at3 hl) ?_
    refine lv_iload_n hx hb dL_law_668 rfl (lv_at0 hl) ?_
    refine lv_iconst (v := 2) hx hb dL_law_669 (by decide) ?_
    refine lv_iadd hx hb dL_law_670 ?_
    refine eqi (x1 := nI (ki + 2)) (nI_add ki 2) ?_
    refine va_sld hx hb hX hbl hbA hS (lw_in hL hki (by decide)) dL_law_671 ?_
    refine eqi (x1 := xs (ki + 2)) (congrArg xs (lw_cl hL hki (by decide))) ?_
    refine lv_if_eq (tgt := 679) hx hb dL_law_672 (by decide) (fun c9 => absurd c9 (c_649_9442)) (fun _ => ?_)
    refine lv_iconst (v := 1) hx hb dL_law_675 (by decide) ?_
    refine lv_goto (tgt := 680) hx hb dL_law_676 (by decide) ?_
    refine lk_iV hC hK hl hP hD hS hA (r_sent l G xm (xs (ki + 1)) 1 nw nk ikp nt (nI ytp) nr (nI yrm) mroundOf mroundFrom nm mfromHour mtoHour ns mfrom mto msort misFault mdeep mcoded mlines nl nc nF np ntr nb mbestCost nso nsi nit nsh nsf nss nrc (nI yjr) mdealer mnumber mwhose msize misParted y_nw y_nm (i_nw) (i_mb)) si_L_69 [103, 104, 108] [0, 1, 2] [false, false, false, false, false, false, false, false, false, false, false, false, false, false, false, false, false, false, false, false, false, false, false, false, false, false, false, false, false, false, false, false, false, false, false, false, false, false, false, false, false, false, false, false, false, false, false, false, false, false, false, false, false, false, false, false, false, false, false, false, false, false, false, false, false, false, false, false, false, false, false, false, false, false, false, false, false, false, false, false, false, false, false, false, false, false, false, false, false, false, false, false, false, false, false, false, false, false, false, false, false, false, false, true, true, false, false, false, true, false, false, false, false, false, false, false, false, false, false, false, false, false, false] rfl rfl (by decide +kernel) (by decide +kernel) rfl rfl rfl rfl rfl (Nat.le_of_ble_eq_true rfl) ⟨Nat.le_of_ble_eq_true rfl, Nat.le_of_ble_eq_true rfl⟩ ⟨by first | exact Nat.le_of_ble_eq_true rfl | omega, by first | exact Nat.le_of_ble_eq_true rfl | omega⟩ dL_law_680 (fun r9471 => Ktu3 fun fh19473 th19474 gnm9475 => ?_)
    intro H locs hr9471 hP2 hS
    try dsimp only at hr9471
    refine Kpdr (ws := (WLW G K hf xb bb cc sg do9 ru9 ta9 tp9 ro9 ho9 de9 bpersons bpapers bstamps bversions blines bsteps bsayings bfindings bwarnings bquestions bpersonsc bpapersc bstampsc bversionsc blinesc bstepsc bsayingsc bfindingsc bwarningsc bquestionsc cpersons cpapers cstamps cversions clines csteps csayings cfindings cwarnings cquestions cpersonsc cpapersc cstampsc cversionsc clinesc cstepsc csayingsc cfindingsc cwarningsc cquestionsc tby tln tsp tlnc tspc hs hz hi hw hn ht tr9 clk fi la ml mm sl sm clm hd kc0 km0 kc1 km1 kc2 km2 kc3 km3 kc4 km4 kc5 km5 kc6 km6 kc7 km7 kc8 km8 kc9 km9 kc10 km10 kc11 km11 kc12 km12 fc sh rr tc rrc xm nw nk nt nr nm ns nl nc nF np ntr nb nso nsi nit nsh nsf nss nrc kbpersons kbpapers kbstamps kbversions kblines kbsteps kbsayings kbfindings kbwarnings kbquestions kcpersons kcpapers kcstamps kcversions kclines kcsteps kcsayings kcfindings kcwarnings kcquestions kt ks kn kln ksp jr kr ytp yrm yjr ikp td vd vl gp ktd kvd kvl kgp tkd tf9 dk dn dp da dq cl19462 bo le bi r1 rc rh tf tt9 tl tbv asd st9 tol mroundOf mroundFrom fh19473 th19474 mfrom mto msort misFault mdeep mcoded mlines mbestCost mdealer mnumber mwhose msize misParted fbpersons fbpapers fbstamps fbversions fblines fbsteps fbsayings fbfindings fbwarnings fbquestions fcpersons fcpapers fcstamps fcversions fclines fcsteps fcsayings fcfindings fcwarnings fcquestions fby ftln ftsp fhw fhn ftr fhs fhz fhi gclm9463 gfi9464 gla9465 gml9466 gmm9467 gsl9468 gsm9469 fk0 fk1 fk2 fk3 fk4 fk5 fk6 fk7 fk8 fk9 fk10 fk11 fk12 ffc fsh frr ftc fht y_nw y_nk y_nt y_nr gnm9475 y_ns y_nl y_nc y_np y_ntr y_nb y_nso y_nsi y_nit y_nsh y_nsf y_nss y_nrc)) hP2 (lk_D hD rfl) (fun hP hD => ?_)
    obtain ⟨hr9471, w9476⟩ := hr9471
    refine lv_pop hx hb dL_law_683 rfl ?_
    refine lv_goto (tgt := 1718) hx hb dL_law_684 (by decide) ?_
    exact hback kbpersons kbpapers kbstamps kbversions kblines kbsteps kbsayings kbfindings kbwarnings kbquestions kcpersons kcpapers kcstamps kcversions kclines kcsteps kcsayings kcfindings kcwarnings kcquestions kt ks kn kln ksp jr kr ytp yrm yjr ikp td vd vl gp ktd kvd kvl kgp tkd tf9 dk dn dp da dq cl19462 bo le bi r1 rc rh tf tt9 tl tbv asd st9 tol mroundOf mroundFrom fh19473 th19474 mfrom mto msort misFault mdeep mcoded mlines mbestCost mdealer mnumber mwhose msize misParted fbpersons fbpapers fbstamps fbversions fblines fbsteps fbsayings fbfindings fbwarnings fbquestions fcpersons fcpapers fcstamps fcversions fclines fcsteps fcsayings fcfindings fcwarnings fcquestions fby ftln ftsp fhw fhn ftr fhs fhz fhi gclm9463 gfi9464 gla9465 gml9466 gmm9467 gsl9468 gsm9469 fk0 fk1 fk2 fk3 fk4 fk5 fk6 fk7 fk8 fk9 fk10 fk11 fk12 ffc fsh frr ftc fht y_nw y_nk y_nt y_nr gnm9475 y_ns y_nl y_nc y_np y_ntr y_nb y_nso y_nsi y_nit y_nsh y_nsf y_nss y_nrc H locs ls i_kbpersons i_kbpapers i_kbstamps i_kbversions i_kblines i_kbsteps i_kbsayings i_kbfindings i_kbwarnings i_kbquestions i_kcpersons i_kcpapers i_kcstamps i_kcversions i_kclines i_kcsteps i_kcsayings i_kcfindings i_kcwarnings i_kcquestions i_kt i_ks i_kn i_kln i_ksp i_jr i_kr i_ytp i_yrm i_yjr i_tp (by first | assumption | omega | exact Or.inl rfl | exact Or.inr rfl) i_tol i_ikp i_nw i_vw i_nk i_vk (by first | assumption | omega | exact Or.inl rfl | exact Or.inr rfl) i_b6 i_sz i_sh i_sl i_sp i_sq i_sc i_sk i_epersons i_epapers i_estamps i_esayings i_efindings i_ewarnings i_equestions i_kpersons i_kpapers i_kstamps i_ksayings i_kfindings i_kwarnings i_kquestions hP hD hS (lv_sub hl [0, 1, 2, 3] rfl)
set_option maxHeartbeats 8000000 in
set_option maxRecDepth 100000 in
theorem law_13 : LAWC 687 := by
  intro p l e s m below meth c b L xs G K A hf xb bb cc sg do9 ru9 ta9 tp9 ro9 ho9 de9 bpersons bpapers bstamps bversions blines bsteps bsayings bfindings bwarnings bquestions bpersonsc bpapersc bstampsc bversionsc blinesc bstepsc bsayingsc bfindingsc bwarningsc bquestionsc cpersons cpapers cstamps cversions clines csteps csayings cfindings cwarnings cquestions cpersonsc cpapersc cstampsc cversionsc clinesc cstepsc csayingsc cfindingsc cwarningsc cquestionsc tby tln tsp tlnc tspc hs hz hi hw hn ht tr9 clk fi la ml mm sl sm clm hd kc0 km0 kc1 km1 kc2 km2 kc3 km3 kc4 km4 kc5 km5 kc6 km6 kc7 km7 kc8 km8 kc9 km9 kc10 km10 kc11 km11 kc12 km12 fc sh rr tc rrc xm nw nk nt nr nm ns nl nc nF np ntr nb nso nsi nit nsh nsf nss nrc kbpersons kbpapers kbstamps kbversions kblines kbsteps kbsayings kbfindings kbwarnings kbquestions kcpersons kcpapers kcstamps kcversions kclines kcsteps kcsayings kcfindings kcwarnings kcquestions kt ks kn kln ksp jr kr ytp yrm yjr ikp td vd vl gp ktd kvd kvl kgp tkd tf9 dk dn dp da dq cl bo le bi r1 rc rh tf tt9 tl tbv asd st9 tol mroundOf mroundFrom mfromHour mtoHour mfrom mto msort misFault mdeep mcoded mlines mbestCost mdealer mnumber mwhose msize misParted fbpersons fbpapers fbstamps fbversions fblines fbsteps fbsayings fbfindings fbwarnings fbquestions fcpersons fcpapers fcstamps fcversions fclines fcsteps fcsayings fcfindings fcwarnings fcquestions fby ftln ftsp fhw fhn ftr fhs fhz fhi fclm ffi fla fml fmm fsl fsm fk0 fk1 fk2 fk3 fk4 fk5 fk6 fk7 fk8 fk9 fk10 fk11 fk12 ffc fsh frr ftc fht y_nw y_nk y_nt y_nr y_nm y_ns y_nl y_nc y_np y_ntr y_nb y_nso y_nsi y_nit y_nsh y_nsf y_nss y_nrc H locs ls ki hC hK hO hX hL hbl hbA hA hA2 hki hf0 hf1 hf2 hf3 hf4 hf5 hf6 hf7 hf8 hf9 hf10 hf11 hf12 i_kbpersons i_kbpapers i_kbstamps i_kbversions i_kblines i_kbsteps i_kbsayings i_kbfindings i_kbwarnings i_kbquestions i_kcpersons i_kcpapers i_kcstamps i_kcversions i_kclines i_kcsteps i_kcsayings i_kcfindings i_kcwarnings i_kcquestions i_kt i_ks i_kn i_kln i_ksp i_jr i_kr i_ytp i_yrm i_yjr i_tp i_cl i_tol i_ikp i_nw i_vw i_nk i_vk i_mb i_b6 i_sz i_sh i_sl i_sp i_sq i_sc i_sk i_epersons i_epapers i_estamps i_esayings i_efindings i_ewarnings i_equestions i_kpersons i_kpapers i_kstamps i_ksayings i_kfindings i_kwarnings i_kquestions hback hP hD hS hl
  refine Kan8 hC (fun hx hb hr hml hB hown hlocks hnm => ?_)
  refine lv_aload_n hx hb dL_law_687 rfl (lv_at2 hl) ?_
  refine lv_aload_n hx hb dL_law_688 rfl (lv_at3 hl) ?_
  refine lv_iload_n hx hb dL_law_689 rfl (lv_at0 hl) ?_
  refine lv_iconst (v := 1) hx hb dL_law_690 (by decide) ?_
  refine lv_iadd hx hb dL_law_691 ?_
  refine eqi (x1 := nI (ki + 1)) (nI_add ki 1) ?_
  refine va_sld hx hb hX hbl hbA hS (lw_in hL hki (by decide)) dL_law_692 ?_
  refine eqi (x1 := xs (ki + 1)) (congrArg xs (lw_cl hL hki (by decide))) ?_
  refine lv_aload_n hx hb dL_law_693 rfl (lv_at3 hl) ?_
  refine lv_iload_n hx hb dL_law_694 rfl (lv_at0 hl) ?_
  refine lv_iconst (v := 2) hx hb dL_law_695 (by decide) ?_
  refine lv_iadd hx hb dL_law_696 ?_
  refine eqi (x1 := nI (ki + 2)) (nI_add ki 2) ?_
  refine va_sld hx hb hX hbl hbA hS (lw_in hL hki (by decide)) dL_law_697 ?_
  refine eqi (x1 := xs (ki + 2)) (congrArg xs (lw_cl hL hki (by decide))) ?_
  refine lv_aload_n hx hb dL_law_698 rfl (lv_at3 hl) ?_
  refine lv_iload_n hx hb dL_law_699 rfl (lv_at0 hl) ?_
  refine lv_iconst (v := 3) hx hb dL_law_700 (by decide) ?_
  refine lv_iadd hx hb dL_law_701 ?_
  refine eqi (x1 := nI (ki + 3)) (nI_add ki 3) ?_
  refine va_sld hx hb hX hbl hbA hS (lw_in hL hki (by decide)) dL_law_702 ?_
  refine eqi (x1 := xs (ki + 3)) (congrArg xs (lw_cl hL hki (by decide))) ?_
  refine lv_if_eq (tgt := 710) hx hb dL_law_703 (by decide) (fun c_703_9477 => ?_) (fun c_703_9477 => ?_)
  · refine lv_iconst (v := 0) hx hb dL_law_710 (by decide) ?_
    refine lk_iV hC hK hl hP hD hS hA (p_hand l G xb (xs (ki + 1)) (xs (ki + 2)) 0 bb cc ikp sg do9 ru9 ta9 tp9 ro9 ho9 de9 bpersons bpapers bstamps bversions blines bsteps bsayings bfindings bwarnings bquestions td vd vl gp clk fi la ml mm sl sm cl clm fclm ffi fla fml fmm fsl fsm bpapersc kbpapers fbpapers bstampsc kbstamps fbstamps bpersonsc kbpersons fbpersons (i_kbpapers) (i_kbstamps) (i_kbpersons) (i_cl)) si_L_70 [0, 1, 57, 58, 59, 60, 61, 62, 63, 64, 65, 4, 5, 6, 7, 2, 3] [0, 1, 15, 16, 11, 12, 13, 14, 2, 3, 4, 5, 6, 7, 8, 9, 10] [true, true, true, true, true, true, true, true, false, false, false, false, false, false, false, false, false, false, false, false, false, false, false, false, false, false, false, false, false, false, false, false, false, false, false, false, false, false, false, false, false, false, false, false, false, false, false, false, false, false, false, false, false, false, false, false, false, true, true, true, true, true, true, true, true, true, false, false, false, false, false, false, false, false, false, false, false, false, false, false, false, false, false, false, false, false, false, false, false, false, false, false, false, false, false, false, false, false, false, false, false, false, false, false, false, false, false, false, false, false, false, false, false, false, false, false, false, false, false, false, false, false, false] rfl rfl (by decide +kernel) (by decide +kernel) rfl rfl rfl rfl rfl (Nat.le_of_ble_eq_true rfl) ⟨Nat.le_of_ble_eq_true rfl, Nat.le_of_ble_eq_true rfl⟩ ⟨by first | exact Nat.le_of_ble_eq_true rfl | omega, by first | exact Nat.le_of_ble_eq_true rfl | omega⟩ dL_law_711 (fun r9478 => Ktu8 fun cl19480 gclm9481 gfi9482 gla9483 gml9484 gmm9485 gsl9486 gsm9487 => ?_)
    intro H locs hr9478 hP2 hS
    try dsimp only at hr9478
    refine Kpdr (ws := (WLW G K hf xb bb cc sg do9 ru9 ta9 tp9 ro9 ho9 de9 bpersons bpapers bstamps bversions blines bsteps bsayings bfindings bwarnings bquestions bpersonsc bpapersc bstampsc bversionsc blinesc bstepsc bsayingsc bfindingsc bwarningsc bquestionsc cpersons cpapers cstamps cversions clines csteps csayings cfindings cwarnings cquestions cpersonsc cpapersc cstampsc cversionsc clinesc cstepsc csayingsc cfindingsc cwarningsc cquestionsc tby tln tsp tlnc tspc hs hz hi hw hn ht tr9 clk fi la ml mm sl sm clm hd kc0 km0 kc1 km1 kc2 km2 kc3 km3 kc4 km4 kc5 km5 kc6 km6 kc7 km7 kc8 km8 kc9 km9 kc10 km10 kc11 km11 kc12 km12 fc sh rr tc rrc xm nw nk nt nr nm ns nl nc nF np ntr nb nso nsi nit nsh nsf nss nrc kbpersons kbpapers kbstamps kbversions kblines kbsteps kbsayings kbfindings kbwarnings kbquestions kcpersons kcpapers kcstamps kcversions kclines kcsteps kcsayings kcfindings kcwarnings kcquestions kt ks kn kln ksp jr kr ytp yrm yjr ikp td vd vl gp ktd kvd kvl kgp tkd tf9 dk dn dp da dq cl19480 bo le bi r1 rc rh tf tt9 tl tbv asd st9 tol mroundOf mroundFrom mfromHour mtoHour mfrom mto msort misFault mdeep mcoded mlines mbestCost mdealer mnumber mwhose msize misParted fbpersons fbpapers fbstamps fbversions fblines fbsteps fbsayings fbfindings fbwarnings fbquestions fcpersons fcpapers fcstamps fcversions fclines fcsteps fcsayings fcfindings fcwarnings fcquestions fby ftln ftsp fhw fhn ftr fhs fhz fhi gclm9481 gfi9482 gla9483 gml9484 gmm9485 gsl9486 gsm9487 fk0 fk1 fk2 fk3 fk4 fk5 fk6 fk7 fk8 fk9 fk10 fk11 fk12 ffc fsh frr ftc fht y_nw y_nk y_nt y_nr y_nm y_ns y_nl y_nc y_np y_ntr y_nb y_nso y_nsi y_nit y_nsh y_nsf y_nss y_nrc)) hP2 (lk_D hD rfl) (fun hP hD => ?_)
    obtain ⟨hr9478, w9488⟩ := hr9478
    refine lv_pop hx hb dL_law_714 rfl ?_
    refine lv_aload_n hx hb dL_law_715 rfl (lv_at1 hl) ?_
    refine lv_aload_n hx hb dL_law_716 rfl (lv_at3 hl) ?_
    refine lv_iload_n hx hb dL_law_717 rfl (lv_at0 hl) ?_
    refine lv_iconst (v := 1) hx hb dL_law_718 (by decide) ?_
    refine lv_iadd hx hb dL_law_719 ?_
    refine eqi (x1 := nI (ki + 1)) (nI_add ki 1) ?_
    refine va_sld hx hb hX hbl hbA hS (lw_in hL hki (by decide)) dL_law_720 ?_
    refine eqi (x1 := xs (ki + 1)) (congrArg xs (lw_cl hL hki (by decide))) ?_
    refine lv_aload_n hx hb dL_law_721 rfl (lv_at3 hl) ?_
    refine lv_iload_n hx hb dL_law_722 rfl (lv_at0 hl) ?_
    refine lv_iconst (v := 2) hx hb dL_law_723 (by decide) ?_
    refine lv_iadd hx hb dL_law_724 ?_
    refine eqi (x1 := nI (ki + 2)) (nI_add ki 2) ?_
    refine va_sld hx hb hX hbl hbA hS (lw_in hL hki (by decide)) dL_law_725 ?_
    refine eqi (x1 := xs (ki + 2)) (congrArg xs (lw_cl hL hki (by decide))) ?_
    refine lv_aload_n hx hb dL_law_726 rfl (lv_at3 hl) ?_
    refine lv_iload_n hx hb dL_law_727 rfl (lv_at0 hl) ?_
    refine lv_iconst (v := 3) hx hb dL_law_728 (by decide) ?_
    refine lv_iadd hx hb dL_law_729 ?_
    refine eqi (x1 := nI (ki + 3)) (nI_add ki 3) ?_
    refine va_sld hx hb hX hbl hbA hS (lw_in hL hki (by decide)) dL_law_730 ?_
    refine eqi (x1 := xs (ki + 3)) (congrArg xs (lw_cl hL hki (by decide))) ?_
    refine lv_if_eq (tgt := 738) hx hb dL_law_731 (by decide) (fun _ => ?_) (fun c9 => absurd (c_703_9477) c9)
    refine lv_iconst (v := 0) hx hb dL_law_738 (by decide) ?_
    refine lk_iV hC hK hl hP hD hS hA (r_hand l G xm (xs (ki + 1)) (xs (ki + 2)) 0 nw nk ikp nt (nI ytp) nr (nI yrm) mroundOf mroundFrom nm mfromHour mtoHour ns mfrom mto msort misFault mdeep mcoded mlines nl nc nF np ntr nb mbestCost nso nsi nit nsh nsf nss nrc (nI yjr) mdealer mnumber mwhose msize misParted y_nw y_nm (i_nw) (i_mb)) si_L_74 [103, 104, 108] [0, 1, 2] [false, false, false, false, false, false, false, false, false, false, false, false, false, false, false, false, false, false, false, false, false, false, false, false, false, false, false, false, false, false, false, false, false, false, false, false, false, false, false, false, false, false, false, false, false, false, false, false, false, false, false, false, false, false, false, false, false, false, false, false, false, false, false, false, false, false, false, false, false, false, false, false, false, false, false, false, false, false, false, false, false, false, false, false, false, false, false, false, false, false, false, false, false, false, false, false, false, false, false, false, false, false, false, true, true, false, false, false, true, false, false, false, false, false, false, false, false, false, false, false, false, false, false] rfl rfl (by decide +kernel) (by decide +kernel) rfl rfl rfl rfl rfl (Nat.le_of_ble_eq_true rfl) ⟨Nat.le_of_ble_eq_true rfl, Nat.le_of_ble_eq_true rfl⟩ ⟨by first | exact Nat.le_of_ble_eq_true rfl | omega, by first | exact Nat.le_of_ble_eq_true rfl | omega⟩ dL_law_739 (fun r9489 => Ktu3 fun fh19491 th19492 gnm9493 => ?_)
    intro H locs hr9489 hP2 hS
    try dsimp only at hr9489
    refine Kpdr (ws := (WLW G K hf xb bb cc sg do9 ru9 ta9 tp9 ro9 ho9 de9 bpersons bpapers bstamps bversions blines bsteps bsayings bfindings bwarnings bquestions bpersonsc bpapersc bstampsc bversionsc blinesc bstepsc bsayingsc bfindingsc bwarningsc bquestionsc cpersons cpapers cstamps cversions clines csteps csayings cfindings cwarnings cquestions cpersonsc cpapersc cstampsc cversionsc clinesc cstepsc csayingsc cfindingsc cwarningsc cquestionsc tby tln tsp tlnc tspc hs hz hi hw hn ht tr9 clk fi la ml mm sl sm clm hd kc0 km0 kc1 km1 kc2 km2 kc3 km3 kc4 km4 kc5 km5 kc6 km6 kc7 km7 kc8 km8 kc9 km9 kc10 km10 kc11 km11 kc12 km12 fc sh rr tc rrc xm nw nk nt nr nm ns nl nc nF np ntr nb nso nsi nit nsh nsf nss nrc kbpersons kbpapers kbstamps kbversions kblines kbsteps kbsayings kbfindings kbwarnings kbquestions kcpersons kcpapers kcstamps kcversions kclines kcsteps kcsayings kcfindings kcwarnings kcquestions kt ks kn kln ksp jr kr ytp yrm yjr ikp td vd vl gp ktd kvd kvl kgp tkd tf9 dk dn dp da dq cl19480 bo le bi r1 rc rh tf tt9 tl tbv asd st9 tol mroundOf mroundFrom fh19491 th19492 mfrom mto msort misFault mdeep mcoded mlines mbestCost mdealer mnumber mwhose msize misParted fbpersons fbpapers fbstamps fbversions fblines fbsteps fbsayings fbfindings fbwarnings fbquestions fcpersons fcpapers fcstamps fcversions fclines fcsteps fcsayings fcfindings fcwarnings fcquestions fby ftln ftsp fhw fhn ftr fhs fhz fhi gclm9481 gfi9482 gla9483 gml9484 gmm9485 gsl9486 gsm9487 fk0 fk1 fk2 fk3 fk4 fk5 fk6 fk7 fk8 fk9 fk10 fk11 fk12 ffc fsh frr ftc fht y_nw y_nk y_nt y_nr gnm9493 y_ns y_nl y_nc y_np y_ntr y_nb y_nso y_nsi y_nit y_nsh y_nsf y_nss y_nrc)) hP2 (lk_D hD rfl) (fun hP hD => ?_)
    obtain ⟨hr9489, w9494⟩ := hr9489
    refine lv_pop hx hb dL_law_742 rfl ?_
    refine lv_goto (tgt := 1718) hx hb dL_law_743 (by decide) ?_
    exact hback kbpersons kbpapers kbstamps kbversions kblines kbsteps kbsayings kbfindings kbwarnings kbquestions kcpersons kcpapers kcstamps kcversions kclines kcsteps kcsayings kcfindings kcwarnings kcquestions kt ks kn kln ksp jr kr ytp yrm yjr ikp td vd vl gp ktd kvd kvl kgp tkd tf9 dk dn dp da dq cl19480 bo le bi r1 rc rh tf tt9 tl tbv asd st9 tol mroundOf mroundFrom fh19491 th19492 mfrom mto msort misFault mdeep mcoded mlines mbestCost mdealer mnumber mwhose msize misParted fbpersons fbpapers fbstamps fbversions fblines fbsteps fbsayings fbfindings fbwarnings fbquestions fcpersons fcpapers fcstamps fcversions fclines fcsteps fcsayings fcfindings fcwarnings fcquestions fby ftln ftsp fhw fhn ftr fhs fhz fhi gclm9481 gfi9482 gla9483 gml9484 gmm9485 gsl9486 gsm9487 fk0 fk1 fk2 fk3 fk4 fk5 fk6 fk7 fk8 fk9 fk10 fk11 fk12 ffc fsh frr ftc fht y_nw y_nk y_nt y_nr gnm9493 y_ns y_nl y_nc y_np y_ntr y_nb y_nso y_nsi y_nit y_nsh y_nsf y_nss y_nrc H locs ls i_kbpersons i_kbpapers i_kbstamps i_kbversions i_kblines i_kbsteps i_kbsayings i_kbfindings i_kbwarnings i_kbquestions i_kcpersons i_kcpapers i_kcstamps i_kcversions i_kclines i_kcsteps i_kcsayings i_kcfindings i_kcwarnings i_kcquestions i_kt i_ks i_kn i_kln i_ksp i_jr i_kr i_ytp i_yrm i_yjr i_tp (by first | assumption | omega | exact Or.inl rfl | exact Or.inr rfl) i_tol i_ikp i_nw i_vw i_nk i_vk (by first | assumption | omega | exact Or.inl rfl | exact Or.inr rfl) i_b6 i_sz i_sh i_sl i_sp i_sq i_sc i_sk i_epersons i_epapers i_estamps i_esayings i_efindings i_ewarnings i_equestions i_kpersons i_kpapers i_kstamps i_ksayings i_kfindings i_kwarnings i_kquestions hP hD hS (lv_sub hl [0, 1, 2, 3] rfl)
  · refine lv_iconst (v := 1) hx hb dL_law_706 (by decide) ?_
    refine lv_goto (tgt := 711) hx hb dL_law_707 (by decide) ?_
    refine lk_iV hC hK hl hP hD hS hA (p_hand l G xb (xs (ki + 1)) (xs (ki + 2)) 1 bb cc ikp sg do9 ru9 ta9 tp9 ro9 ho9 de9 bpersons bpapers bstamps bversions blines bsteps bsayings bfindings bwarnings bquestions td vd vl gp clk fi la ml mm sl sm cl clm fclm ffi fla fml fmm fsl fsm bpapersc kbpapers fbpapers bstampsc kbstamps fbstamps bpersonsc kbpersons fbpersons (i_kbpapers) (i_kbstamps) (i_kbpersons) (i_cl)) si_L_70 [0, 1, 57, 58, 59, 60, 61, 62, 63, 64, 65, 4, 5, 6, 7, 2, 3] [0, 1, 15, 16, 11, 12, 13, 14, 2, 3, 4, 5, 6, 7, 8, 9, 10] [true, true, true, true, true, true, true, true, false, false, false, false, false, false, false, false, false, false, false, false, false, false, false, false, false, false, false, false, false, false, false, false, false, false, false, false, false, false, false, false, false, false, false, false, false, false, false, false, false, false, false, false, false, false, false, false, false, true, true, true, true, true, true, true, true, true, false, false, false, false, false, false, false, false, false, false, false, false, false, false, false, false, false, false, false, false, false, false, false, false, false, false, false, false, false, false, false, false, false, false, false, false, false, false, false, false, false, false, false, false, false, false, false, false, false, false, false, false, false, false, false, false, false] rfl rfl (by decide +kernel) (by decide +kernel) rfl rfl rfl rfl rfl (Nat.le_of_ble_eq_true rfl) ⟨Nat.le_of_ble_eq_true rfl, Nat.le_of_ble_eq_true rfl⟩ ⟨by first | exact Nat.le_of_ble_eq_true rfl | omega, by first | exact Nat.le_of_ble_eq_true rfl | omega⟩ dL_law_711 (fun r9495 => Ktu8 fun cl19497 gclm9498 gfi9499 gla9500 gml9501 gmm9502 gsl9503 gsm9504 => ?_)
    intro H locs hr9495 hP2 hS
    try dsimp only at hr9495
    refine Kpdr (ws := (WLW G K hf xb bb cc sg do9 ru9 ta9 tp9 ro9 ho9 de9 bpersons bpapers bstamps bversions blines bsteps bsayings bfindings bwarnings bquestions bpersonsc bpapersc bstampsc bversionsc blinesc bstepsc bsayingsc bfindingsc bwarningsc bquestionsc cpersons cpapers cstamps cversions clines csteps csayings cfindings cwarnings cquestions cpersonsc cpapersc cstampsc cversionsc clinesc cstepsc csayingsc cfindingsc cwarningsc cquestionsc tby tln tsp tlnc tspc hs hz hi hw hn ht tr9 clk fi la ml mm sl sm clm hd kc0 km0 kc1 km1 kc2 km2 kc3 km3 kc4 km4 kc5 km5 kc6 km6 kc7 km7 kc8 km8 kc9 km9 kc10 km10 kc11 km11 kc12 km12 fc sh rr tc rrc xm nw nk nt nr nm ns nl nc nF np ntr nb nso nsi nit nsh nsf nss nrc kbpersons kbpapers kbstamps kbversions kblines kbsteps kbsayings kbfindings kbwarnings kbquestions kcpersons kcpapers kcstamps kcversions kclines kcsteps kcsayings kcfindings kcwarnings kcquestions kt ks kn kln ksp jr kr ytp yrm yjr ikp td vd vl gp ktd kvd kvl kgp tkd tf9 dk dn dp da dq cl19497 bo le bi r1 rc rh tf tt9 tl tbv asd st9 tol mroundOf mroundFrom mfromHour mtoHour mfrom mto msort misFault mdeep mcoded mlines mbestCost mdealer mnumber mwhose msize misParted fbpersons fbpapers fbstamps fbversions fblines fbsteps fbsayings fbfindings fbwarnings fbquestions fcpersons fcpapers fcstamps fcversions fclines fcsteps fcsayings fcfindings fcwarnings fcquestions fby ftln ftsp fhw fhn ftr fhs fhz fhi gclm9498 gfi9499 gla9500 gml9501 gmm9502 gsl9503 gsm9504 fk0 fk1 fk2 fk3 fk4 fk5 fk6 fk7 fk8 fk9 fk10 fk11 fk12 ffc fsh frr ftc fht y_nw y_nk y_nt y_nr y_nm y_ns y_nl y_nc y_np y_ntr y_nb y_nso y_nsi y_nit y_nsh y_nsf y_nss y_nrc)) hP2 (lk_D hD rfl) (fun hP hD => ?_)
    obtain ⟨hr9495, w9505⟩ := hr9495
    refine lv_pop hx hb dL_law_714 rfl ?_
    refine lv_aload_n hx hb dL_law_715 rfl (lv_at1 hl) ?_
    refine lv_aload_n hx hb dL_law_716 rfl (lv_at3 hl) ?_
    refine lv_iload_n hx hb dL_law_717 rfl (lv_at0 hl) ?_
    refine lv_iconst (v := 1) hx hb dL_law_718 (by decide) ?_
    refine lv_iadd hx hb dL_law_719 ?_
    refine eqi (x1 := nI (ki + 1)) (nI_add ki 1) ?_
    refine va_sld hx hb hX hbl hbA hS (lw_in hL hki (by decide)) dL_law_720 ?_
    refine eqi (x1 := xs (ki + 1)) (congrArg xs (lw_cl hL hki (by decide))) ?_
    refine lv_aload_n hx hb dL_law_721 rfl (lv_at3 hl) ?_
    refine lv_iload_n hx hb dL_law_722 rfl (lv_at0 hl) ?_
    refine lv_iconst (v := 2) hx hb dL_law_723 (by decide) ?_
    refine lv_iadd hx hb dL_law_724 ?_
    refine eqi (x1 := nI (ki + 2)) (nI_add ki 2) ?_
    refine va_sld hx hb hX hbl hbA hS (lw_in hL hki (by decide)) dL_law_725 ?_
    refine eqi (x1 := xs (ki + 2)) (congrArg xs (lw_cl hL hki (by decide))) ?_
    refine lv_aload_n hx hb dL_law_726 rfl (lv_at3 hl) ?_
    refine lv_iload_n hx hb dL_law_727 rfl (lv_at0 hl) ?_
    refine lv_iconst (v := 3) hx hb dL_law_728 (by decide) ?_
    refine lv_iadd hx hb dL_law_729 ?_
    refine eqi (x1 := nI (ki + 3)) (nI_add ki 3) ?_
    refine va_sld hx hb hX hbl hbA hS (lw_in hL hki (by decide)) dL_law_730 ?_
    refine eqi (x1 := xs (ki + 3)) (congrArg xs (lw_cl hL hki (by decide))) ?_
    refine lv_if_eq (tgt := 738) hx hb dL_law_731 (by decide) (fun c9 => absurd c9 (c_703_9477)) (fun _ => ?_)
    refine lv_iconst (v := 1) hx hb dL_law_734 (by decide) ?_
    refine lv_goto (tgt := 739) hx hb dL_law_735 (by decide) ?_
    refine lk_iV hC hK hl hP hD hS hA (r_hand l G xm (xs (ki + 1)) (xs (ki + 2)) 1 nw nk ikp nt (nI ytp) nr (nI yrm) mroundOf mroundFrom nm mfromHour mtoHour ns mfrom mto msort misFault mdeep mcoded mlines nl nc nF np ntr nb mbestCost nso nsi nit nsh nsf nss nrc (nI yjr) mdealer mnumber mwhose msize misParted y_nw y_nm (i_nw) (i_mb)) si_L_74 [103, 104, 108] [0, 1, 2] [false, false, false, false, false, false, false, false, false, false, false, false, false, false, false, false, false, false, false, false, false, false, false, false, false, false, false, false, false, false, false, false, false, false, false, false, false, false, false, false, false, false, false, false, false, false, false, false, false, false, false, false, false, false, false, false, false, false, false, false, false, false, false, false, false, false, false, false, false, false, false, false, false, false, false, false, false, false, false, false, false, false, false, false, false, false, false, false, false, false, false, false, false, false, false, false, false, false, false, false, false, false, false, true, true, false, false, false, true, false, false, false, false, false, false, false, false, false, false, false, false, false, false] rfl rfl (by decide +kernel) (by decide +kernel) rfl rfl rfl rfl rfl (Nat.le_of_ble_eq_true rfl) ⟨Nat.le_of_ble_eq_true rfl, Nat.le_of_ble_eq_true rfl⟩ ⟨by first | exact Nat.le_of_ble_eq_true rfl | omega, by first | exact Nat.le_of_ble_eq_true rfl | omega⟩ dL_law_739 (fun r9506 => Ktu3 fun fh19508 th19509 gnm9510 => ?_)
    intro H locs hr9506 hP2 hS
    try dsimp only at hr9506
    refine Kpdr (ws := (WLW G K hf xb bb cc sg do9 ru9 ta9 tp9 ro9 ho9 de9 bpersons bpapers bstamps bversions blines bsteps bsayings bfindings bwarnings bquestions bpersonsc bpapersc bstampsc bversionsc blinesc bstepsc bsayingsc bfindingsc bwarningsc bquestionsc cpersons cpapers cstamps cversions clines csteps csayings cfindings cwarnings cquestions cpersonsc cpapersc cstampsc cversionsc clinesc cstepsc csayingsc cfindingsc cwarningsc cquestionsc tby tln tsp tlnc tspc hs hz hi hw hn ht tr9 clk fi la ml mm sl sm clm hd kc0 km0 kc1 km1 kc2 km2 kc3 km3 kc4 km4 kc5 km5 kc6 km6 kc7 km7 kc8 km8 kc9 km9 kc10 km10 kc11 km11 kc12 km12 fc sh rr tc rrc xm nw nk nt nr nm ns nl nc nF np ntr nb nso nsi nit nsh nsf nss nrc kbpersons kbpapers kbstamps kbversions kblines kbsteps kbsayings kbfindings kbwarnings kbquestions kcpersons kcpapers kcstamps kcversions kclines kcsteps kcsayings kcfindings kcwarnings kcquestions kt ks kn kln ksp jr kr ytp yrm yjr ikp td vd vl gp ktd kvd kvl kgp tkd tf9 dk dn dp da dq cl19497 bo le bi r1 rc rh tf tt9 tl tbv asd st9 tol mroundOf mroundFrom fh19508 th19509 mfrom mto msort misFault mdeep mcoded mlines mbestCost mdealer mnumber mwhose msize misParted fbpersons fbpapers fbstamps fbversions fblines fbsteps fbsayings fbfindings fbwarnings fbquestions fcpersons fcpapers fcstamps fcversions fclines fcsteps fcsayings fcfindings fcwarnings fcquestions fby ftln ftsp fhw fhn ftr fhs fhz fhi gclm9498 gfi9499 gla9500 gml9501 gmm9502 gsl9503 gsm9504 fk0 fk1 fk2 fk3 fk4 fk5 fk6 fk7 fk8 fk9 fk10 fk11 fk12 ffc fsh frr ftc fht y_nw y_nk y_nt y_nr gnm9510 y_ns y_nl y_nc y_np y_ntr y_nb y_nso y_nsi y_nit y_nsh y_nsf y_nss y_nrc)) hP2 (lk_D hD rfl) (fun hP hD => ?_)
    obtain ⟨hr9506, w9511⟩ := hr9506
    refine lv_pop hx hb dL_law_742 rfl ?_
    refine lv_goto (tgt := 1718) hx hb dL_law_743 (by decide) ?_
    exact hback kbpersons kbpapers kbstamps kbversions kblines kbsteps kbsayings kbfindings kbwarnings kbquestions kcpersons kcpapers kcstamps kcversions kclines kcsteps kcsayings kcfindings kcwarnings kcquestions kt ks kn kln ksp jr kr ytp yrm yjr ikp td vd vl gp ktd kvd kvl kgp tkd tf9 dk dn dp da dq cl19497 bo le bi r1 rc rh tf tt9 tl tbv asd st9 tol mroundOf mroundFrom fh19508 th19509 mfrom mto msort misFault mdeep mcoded mlines mbestCost mdealer mnumber mwhose msize misParted fbpersons fbpapers fbstamps fbversions fblines fbsteps fbsayings fbfindings fbwarnings fbquestions fcpersons fcpapers fcstamps fcversions fclines fcsteps fcsayings fcfindings fcwarnings fcquestions fby ftln ftsp fhw fhn ftr fhs fhz fhi gclm9498 gfi9499 gla9500 gml9501 gmm9502 gsl9503 gsm9504 fk0 fk1 fk2 fk3 fk4 fk5 fk6 fk7 fk8 fk9 fk10 fk11 fk12 ffc fsh frr ftc fht y_nw y_nk y_nt y_nr gnm9510 y_ns y_nl y_nc y_np y_ntr y_nb y_nso y_nsi y_nit y_nsh y_nsf y_nss y_nrc H locs ls i_kbpersons i_kbpapers i_kbstamps i_kbversions i_kblines i_kbsteps i_kbsayings i_kbfindings i_kbwarnings i_kbquestions i_kcpersons i_kcpapers i_kcstamps i_kcversions i_kclines i_kcsteps i_kcsayings i_kcfindings i_kcwarnings i_kcquestions i_kt i_ks i_kn i_kln i_ksp i_jr i_kr i_ytp i_yrm i_yjr i_tp (by first | assumption | omega | exact Or.inl rfl | exact Or.inr rfl) i_tol i_ikp i_nw i_vw i_nk i_vk (by first | assumption | omega | exact Or.inl rfl | exact Or.inr rfl) i_b6 i_sz i_sh i_sl i_sp i_sq i_sc i_sk i_epersons i_epapers i_estamps i_esayings i_efindings i_ewarnings i_equestions i_kpersons i_kpapers i_kstamps i_ksayings i_kfindings i_kwarnings i_kquestions hP hD hS (lv_sub hl [0, 1, 2, 3] rfl)
set_option maxHeartbeats 8000000 in
set_option maxRecDepth 100000 in
theorem law_14 : LAWC 746 := by
  intro p l e s m below meth c b L xs G K A hf xb bb cc sg do9 ru9 ta9 tp9 ro9 ho9 de9 bpersons bpapers bstamps bversions blines bsteps bsayings bfindings bwarnings bquestions bpersonsc bpapersc bstampsc bversionsc blinesc bstepsc bsayingsc bfindingsc bwarningsc bquestionsc cpersons cpapers cstamps cversions clines csteps csayings cfindings cwarnings cquestions cpersonsc cpapersc cstampsc cversionsc clinesc cstepsc csayingsc cfindingsc cwarningsc cquestionsc tby tln tsp tlnc tspc hs hz hi hw hn ht tr9 clk fi la ml mm sl sm clm hd kc0 km0 kc1 km1 kc2 km2 kc3 km3 kc4 km4 kc5 km5 kc6 km6 kc7 km7 kc8 km8 kc9 km9 kc10 km10 kc11 km11 kc12 km12 fc sh rr tc rrc xm nw nk nt nr nm ns nl nc nF np ntr nb nso nsi nit nsh nsf nss nrc kbpersons kbpapers kbstamps kbversions kblines kbsteps kbsayings kbfindings kbwarnings kbquestions kcpersons kcpapers kcstamps kcversions kclines kcsteps kcsayings kcfindings kcwarnings kcquestions kt ks kn kln ksp jr kr ytp yrm yjr ikp td vd vl gp ktd kvd kvl kgp tkd tf9 dk dn dp da dq cl bo le bi r1 rc rh tf tt9 tl tbv asd st9 tol mroundOf mroundFrom mfromHour mtoHour mfrom mto msort misFault mdeep mcoded mlines mbestCost mdealer mnumber mwhose msize misParted fbpersons fbpapers fbstamps fbversions fblines fbsteps fbsayings fbfindings fbwarnings fbquestions fcpersons fcpapers fcstamps fcversions fclines fcsteps fcsayings fcfindings fcwarnings fcquestions fby ftln ftsp fhw fhn ftr fhs fhz fhi fclm ffi fla fml fmm fsl fsm fk0 fk1 fk2 fk3 fk4 fk5 fk6 fk7 fk8 fk9 fk10 fk11 fk12 ffc fsh frr ftc fht y_nw y_nk y_nt y_nr y_nm y_ns y_nl y_nc y_np y_ntr y_nb y_nso y_nsi y_nit y_nsh y_nsf y_nss y_nrc H locs ls ki hC hK hO hX hL hbl hbA hA hA2 hki hf0 hf1 hf2 hf3 hf4 hf5 hf6 hf7 hf8 hf9 hf10 hf11 hf12 i_kbpersons i_kbpapers i_kbstamps i_kbversions i_kblines i_kbsteps i_kbsayings i_kbfindings i_kbwarnings i_kbquestions i_kcpersons i_kcpapers i_kcstamps i_kcversions i_kclines i_kcsteps i_kcsayings i_kcfindings i_kcwarnings i_kcquestions i_kt i_ks i_kn i_kln i_ksp i_jr i_kr i_ytp i_yrm i_yjr i_tp i_cl i_tol i_ikp i_nw i_vw i_nk i_vk i_mb i_b6 i_sz i_sh i_sl i_sp i_sq i_sc i_sk i_epersons i_epapers i_estamps i_esayings i_efindings i_ewarnings i_equestions i_kpersons i_kpapers i_kstamps i_ksayings i_kfindings i_kwarnings i_kquestions hback hP hD hS hl
  refine Kan8 hC (fun hx hb hr hml hB hown hlocks hnm => ?_)
  refine lv_aload_n hx hb dL_law_746 rfl (lv_at2 hl) ?_
  refine lv_aload_n hx hb dL_law_747 rfl (lv_at3 hl) ?_
  refine lv_iload_n hx hb dL_law_748 rfl (lv_at0 hl) ?_
  refine lv_iconst (v := 1) hx hb dL_law_749 (by decide) ?_
  refine lv_iadd hx hb dL_law_750 ?_
  refine eqi (x1 := nI (ki + 1)) (nI_add ki 1) ?_
  refine va_sld hx hb hX hbl hbA hS (lw_in hL hki (by decide)) dL_law_751 ?_
  refine eqi (x1 := xs (ki + 1)) (congrArg xs (lw_cl hL hki (by decide))) ?_
  refine lv_aload_n hx hb dL_law_752 rfl (lv_at3 hl) ?_
  refine lv_iload_n hx hb dL_law_753 rfl (lv_at0 hl) ?_
  refine lv_iconst (v := 2) hx hb dL_law_754 (by decide) ?_
  refine lv_iadd hx hb dL_law_755 ?_
  refine eqi (x1 := nI (ki + 2)) (nI_add ki 2) ?_
  refine va_sld hx hb hX hbl hbA hS (lw_in hL hki (by decide)) dL_law_756 ?_
  refine eqi (x1 := xs (ki + 2)) (congrArg xs (lw_cl hL hki (by decide))) ?_
  refine lk_iV hC hK hl hP hD hS hA (p_before l G xb (xs (ki + 1)) (xs (ki + 2)) bb cc ikp sg do9 ru9 ta9 tp9 ro9 ho9 de9 bpersons bpapers bstamps bversions blines bsteps bsayings bfindings bwarnings bquestions td vd vl gp clk fi la ml mm sl sm cl clm fclm ffi fla fml fmm fsl fsm bpapersc kbpapers fbpapers bstampsc kbstamps fbstamps (i_kbpapers) (i_kbstamps) (i_cl)) si_L_75 [0, 1, 57, 58, 59, 60, 61, 62, 63, 64, 65, 4, 5, 6, 7] [0, 1, 11, 12, 13, 14, 2, 3, 4, 5, 6, 7, 8, 9, 10] [true, true, false, false, true, true, true, true, false, false, false, false, false, false, false, false, false, false, false, false, false, false, false, false, false, false, false, false, false, false, false, false, false, false, false, false, false, false, false, false, false, false, false, false, false, false, false, false, false, false, false, false, false, false, false, false, false, true, true, true, true, true, true, true, true, true, false, false, false, false, false, false, false, false, false, false, false, false, false, false, false, false, false, false, false, false, false, false, false, false, false, false, false, false, false, false, false, false, false, false, false, false, false, false, false, false, false, false, false, false, false, false, false, false, false, false, false, false, false, false, false, false, false] rfl rfl (by decide +kernel) (by decide +kernel) rfl rfl rfl rfl rfl (Nat.le_of_ble_eq_true rfl) ⟨Nat.le_of_ble_eq_true rfl, Nat.le_of_ble_eq_true rfl⟩ ⟨by first | exact Nat.le_of_ble_eq_true rfl | omega, by first | exact Nat.le_of_ble_eq_true rfl | omega⟩ dL_law_757 (fun r9512 => Ktu8 fun cl19514 gclm9515 gfi9516 gla9517 gml9518 gmm9519 gsl9520 gsm9521 => ?_)
  intro H locs hr9512 hP2 hS
  try dsimp only at hr9512
  refine Kpdr (ws := (WLW G K hf xb bb cc sg do9 ru9 ta9 tp9 ro9 ho9 de9 bpersons bpapers bstamps bversions blines bsteps bsayings bfindings bwarnings bquestions bpersonsc bpapersc bstampsc bversionsc blinesc bstepsc bsayingsc bfindingsc bwarningsc bquestionsc cpersons cpapers cstamps cversions clines csteps csayings cfindings cwarnings cquestions cpersonsc cpapersc cstampsc cversionsc clinesc cstepsc csayingsc cfindingsc cwarningsc cquestionsc tby tln tsp tlnc tspc hs hz hi hw hn ht tr9 clk fi la ml mm sl sm clm hd kc0 km0 kc1 km1 kc2 km2 kc3 km3 kc4 km4 kc5 km5 kc6 km6 kc7 km7 kc8 km8 kc9 km9 kc10 km10 kc11 km11 kc12 km12 fc sh rr tc rrc xm nw nk nt nr nm ns nl nc nF np ntr nb nso nsi nit nsh nsf nss nrc kbpersons kbpapers kbstamps kbversions kblines kbsteps kbsayings kbfindings kbwarnings kbquestions kcpersons kcpapers kcstamps kcversions kclines kcsteps kcsayings kcfindings kcwarnings kcquestions kt ks kn kln ksp jr kr ytp yrm yjr ikp td vd vl gp ktd kvd kvl kgp tkd tf9 dk dn dp da dq cl19514 bo le bi r1 rc rh tf tt9 tl tbv asd st9 tol mroundOf mroundFrom mfromHour mtoHour mfrom mto msort misFault mdeep mcoded mlines mbestCost mdealer mnumber mwhose msize misParted fbpersons fbpapers fbstamps fbversions fblines fbsteps fbsayings fbfindings fbwarnings fbquestions fcpersons fcpapers fcstamps fcversions fclines fcsteps fcsayings fcfindings fcwarnings fcquestions fby ftln ftsp fhw fhn ftr fhs fhz fhi gclm9515 gfi9516 gla9517 gml9518 gmm9519 gsl9520 gsm9521 fk0 fk1 fk2 fk3 fk4 fk5 fk6 fk7 fk8 fk9 fk10 fk11 fk12 ffc fsh frr ftc fht y_nw y_nk y_nt y_nr y_nm y_ns y_nl y_nc y_np y_ntr y_nb y_nso y_nsi y_nit y_nsh y_nsf y_nss y_nrc)) hP2 (lk_D hD rfl) (fun hP hD => ?_)
  obtain ⟨hr9512, w9522⟩ := hr9512
  refine lv_pop hx hb dL_law_760 rfl ?_
  refine lv_aload_n hx hb dL_law_761 rfl (lv_at1 hl) ?_
  refine lv_aload_n hx hb dL_law_762 rfl (lv_at3 hl) ?_
  refine lv_iload_n hx hb dL_law_763 rfl (lv_at0 hl) ?_
  refine lv_iconst (v := 1) hx hb dL_law_764 (by decide) ?_
  refine lv_iadd hx hb dL_law_765 ?_
  refine eqi (x1 := nI (ki + 1)) (nI_add ki 1) ?_
  refine va_sld hx hb hX hbl hbA hS (lw_in hL hki (by decide)) dL_law_766 ?_
  refine eqi (x1 := xs (ki + 1)) (congrArg xs (lw_cl hL hki (by decide))) ?_
  refine lv_aload_n hx hb dL_law_767 rfl (lv_at3 hl) ?_
  refine lv_iload_n hx hb dL_law_768 rfl (lv_at0 hl) ?_
  refine lv_iconst (v := 2) hx hb dL_law_769 (by decide) ?_
  refine lv_iadd hx hb dL_law_770 ?_
  refine eqi (x1 := nI (ki + 2)) (nI_add ki 2) ?_
  refine va_sld hx hb hX hbl hbA hS (lw_in hL hki (by decide)) dL_law_771 ?_
  refine eqi (x1 := xs (ki + 2)) (congrArg xs (lw_cl hL hki (by decide))) ?_
  refine lk_iV hC hK hl hP hD hS hA (r_before l G xm (xs (ki + 1)) (xs (ki + 2)) nw nk ikp nt (nI ytp) nr (nI yrm) mroundOf mroundFrom nm mfromHour mtoHour ns mfrom mto msort misFault mdeep mcoded mlines nl nc nF np ntr nb mbestCost nso nsi nit nsh nsf nss nrc (nI yjr) mdealer mnumber mwhose msize misParted y_nw y_nm (i_nw) (i_mb)) si_L_78 [103, 104, 108] [0, 1, 2] [false, false, false, false, false, false, false, false, false, false, false, false, false, false, false, false, false, false, false, false, false, false, false, false, false, false, false, false, false, false, false, false, false, false, false, false, false, false, false, false, false, false, false, false, false, false, false, false, false, false, false, false, false, false, false, false, false, false, false, false, false, false, false, false, false, false, false, false, false, false, false, false, false, false, false, false, false, false, false, false, false, false, false, false, false, false, false, false, false, false, false, false, false, false, false, false, false, false, false, false, false, false, false, true, true, false, false, false, true, false, false, false, false, false, false, false, false, false, false, false, false, false, false] rfl rfl (by decide +kernel) (by decide +kernel) rfl rfl rfl rfl rfl (Nat.le_of_ble_eq_true rfl) ⟨Nat.le_of_ble_eq_true rfl, Nat.le_of_ble_eq_true rfl⟩ ⟨by first | exact Nat.le_of_ble_eq_true rfl | omega, by first | exact Nat.le_of_ble_eq_true rfl | omega⟩ dL_law_772 (fun r9523 => Ktu3 fun fh19525 th19526 gnm9527 => ?_)
  intro H locs hr9523 hP2 hS
  try dsimp only at hr9523
  refine Kpdr (ws := (WLW G K hf xb bb cc sg do9 ru9 ta9 tp9 ro9 ho9 de9 bpersons bpapers bstamps bversions blines bsteps bsayings bfindings bwarnings bquestions bpersonsc bpapersc bstampsc bversionsc blinesc bstepsc bsayingsc bfindingsc bwarningsc bquestionsc cpersons cpapers cstamps cversions clines csteps csayings cfindings cwarnings cquestions cpersonsc cpapersc cstampsc cversionsc clinesc cstepsc csayingsc cfindingsc cwarningsc cquestionsc tby tln tsp tlnc tspc hs hz hi hw hn ht tr9 clk fi la ml mm sl sm clm hd kc0 km0 kc1 km1 kc2 km2 kc3 km3 kc4 km4 kc5 km5 kc6 km6 kc7 km7 kc8 km8 kc9 km9 kc10 km10 kc11 km11 kc12 km12 fc sh rr tc rrc xm nw nk nt nr nm ns nl nc nF np ntr nb nso nsi nit nsh nsf nss nrc kbpersons kbpapers kbstamps kbversions kblines kbsteps kbsayings kbfindings kbwarnings kbquestions kcpersons kcpapers kcstamps kcversions kclines kcsteps kcsayings kcfindings kcwarnings kcquestions kt ks kn kln ksp jr kr ytp yrm yjr ikp td vd vl gp ktd kvd kvl kgp tkd tf9 dk dn dp da dq cl19514 bo le bi r1 rc rh tf tt9 tl tbv asd st9 tol mroundOf mroundFrom fh19525 th19526 mfrom mto msort misFault mdeep mcoded mlines mbestCost mdealer mnumber mwhose msize misParted fbpersons fbpapers fbstamps fbversions fblines fbsteps fbsayings fbfindings fbwarnings fbquestions fcpersons fcpapers fcstamps fcversions fclines fcsteps fcsayings fcfindings fcwarnings fcquestions fby ftln ftsp fhw fhn ftr fhs fhz fhi gclm9515 gfi9516 gla9517 gml9518 gmm9519 gsl9520 gsm9521 fk0 fk1 fk2 fk3 fk4 fk5 fk6 fk7 fk8 fk9 fk10 fk11 fk12 ffc fsh frr ftc fht y_nw y_nk y_nt y_nr gnm9527 y_ns y_nl y_nc y_np y_ntr y_nb y_nso y_nsi y_nit y_nsh y_nsf y_nss y_nrc)) hP2 (lk_D hD rfl) (fun hP hD => ?_)
  obtain ⟨hr9523, w9528⟩ := hr9523
  refine lv_pop hx hb dL_law_775 rfl ?_
  refine lv_goto (tgt := 1718) hx hb dL_law_776 (by decide) ?_
  exact hback kbpersons kbpapers kbstamps kbversions kblines kbsteps kbsayings kbfindings kbwarnings kbquestions kcpersons kcpapers kcstamps kcversions kclines kcsteps kcsayings kcfindings kcwarnings kcquestions kt ks kn kln ksp jr kr ytp yrm yjr ikp td vd vl gp ktd kvd kvl kgp tkd tf9 dk dn dp da dq cl19514 bo le bi r1 rc rh tf tt9 tl tbv asd st9 tol mroundOf mroundFrom fh19525 th19526 mfrom mto msort misFault mdeep mcoded mlines mbestCost mdealer mnumber mwhose msize misParted fbpersons fbpapers fbstamps fbversions fblines fbsteps fbsayings fbfindings fbwarnings fbquestions fcpersons fcpapers fcstamps fcversions fclines fcsteps fcsayings fcfindings fcwarnings fcquestions fby ftln ftsp fhw fhn ftr fhs fhz fhi gclm9515 gfi9516 gla9517 gml9518 gmm9519 gsl9520 gsm9521 fk0 fk1 fk2 fk3 fk4 fk5 fk6 fk7 fk8 fk9 fk10 fk11 fk12 ffc fsh frr ftc fht y_nw y_nk y_nt y_nr gnm9527 y_ns y_nl y_nc y_np y_ntr y_nb y_nso y_nsi y_nit y_nsh y_nsf y_nss y_nrc H locs ls i_kbpersons i_kbpapers i_kbstamps i_kbversions i_kblines i_kbsteps i_kbsayings i_kbfindings i_kbwarnings i_kbquestions i_kcpersons i_kcpapers i_kcstamps i_kcversions i_kclines i_kcsteps i_kcsayings i_kcfindings i_kcwarnings i_kcquestions i_kt i_ks i_kn i_kln i_ksp i_jr i_kr i_ytp i_yrm i_yjr i_tp (by first | assumption | omega | exact Or.inl rfl | exact Or.inr rfl) i_tol i_ikp i_nw i_vw i_nk i_vk (by first | assumption | omega | exact Or.inl rfl | exact Or.inr rfl) i_b6 i_sz i_sh i_sl i_sp i_sq i_sc i_sk i_epersons i_epapers i_estamps i_esayings i_efindings i_ewarnings i_equestions i_kpersons i_kpapers i_kstamps i_ksayings i_kfindings i_kwarnings i_kquestions hP hD hS (lv_sub hl [0, 1, 2, 3] rfl)
set_option maxHeartbeats 8000000 in
set_option maxRecDepth 100000 in
theorem law_15 : LAWC 779 := by
  intro p l e s m below meth c b L xs G K A hf xb bb cc sg do9 ru9 ta9 tp9 ro9 ho9 de9 bpersons bpapers bstamps bversions blines bsteps bsayings bfindings bwarnings bquestions bpersonsc bpapersc bstampsc bversionsc blinesc bstepsc bsayingsc bfindingsc bwarningsc bquestionsc cpersons cpapers cstamps cversions clines csteps csayings cfindings cwarnings cquestions cpersonsc cpapersc cstampsc cversionsc clinesc cstepsc csayingsc cfindingsc cwarningsc cquestionsc tby tln tsp tlnc tspc hs hz hi hw hn ht tr9 clk fi la ml mm sl sm clm hd kc0 km0 kc1 km1 kc2 km2 kc3 km3 kc4 km4 kc5 km5 kc6 km6 kc7 km7 kc8 km8 kc9 km9 kc10 km10 kc11 km11 kc12 km12 fc sh rr tc rrc xm nw nk nt nr nm ns nl nc nF np ntr nb nso nsi nit nsh nsf nss nrc kbpersons kbpapers kbstamps kbversions kblines kbsteps kbsayings kbfindings kbwarnings kbquestions kcpersons kcpapers kcstamps kcversions kclines kcsteps kcsayings kcfindings kcwarnings kcquestions kt ks kn kln ksp jr kr ytp yrm yjr ikp td vd vl gp ktd kvd kvl kgp tkd tf9 dk dn dp da dq cl bo le bi r1 rc rh tf tt9 tl tbv asd st9 tol mroundOf mroundFrom mfromHour mtoHour mfrom mto msort misFault mdeep mcoded mlines mbestCost mdealer mnumber mwhose msize misParted fbpersons fbpapers fbstamps fbversions fblines fbsteps fbsayings fbfindings fbwarnings fbquestions fcpersons fcpapers fcstamps fcversions fclines fcsteps fcsayings fcfindings fcwarnings fcquestions fby ftln ftsp fhw fhn ftr fhs fhz fhi fclm ffi fla fml fmm fsl fsm fk0 fk1 fk2 fk3 fk4 fk5 fk6 fk7 fk8 fk9 fk10 fk11 fk12 ffc fsh frr ftc fht y_nw y_nk y_nt y_nr y_nm y_ns y_nl y_nc y_np y_ntr y_nb y_nso y_nsi y_nit y_nsh y_nsf y_nss y_nrc H locs ls ki hC hK hO hX hL hbl hbA hA hA2 hki hf0 hf1 hf2 hf3 hf4 hf5 hf6 hf7 hf8 hf9 hf10 hf11 hf12 i_kbpersons i_kbpapers i_kbstamps i_kbversions i_kblines i_kbsteps i_kbsayings i_kbfindings i_kbwarnings i_kbquestions i_kcpersons i_kcpapers i_kcstamps i_kcversions i_kclines i_kcsteps i_kcsayings i_kcfindings i_kcwarnings i_kcquestions i_kt i_ks i_kn i_kln i_ksp i_jr i_kr i_ytp i_yrm i_yjr i_tp i_cl i_tol i_ikp i_nw i_vw i_nk i_vk i_mb i_b6 i_sz i_sh i_sl i_sp i_sq i_sc i_sk i_epersons i_epapers i_estamps i_esayings i_efindings i_ewarnings i_equestions i_kpersons i_kpapers i_kstamps i_ksayings i_kfindings i_kwarnings i_kquestions hback hP hD hS hl
  refine Kan8 hC (fun hx hb hr hml hB hown hlocks hnm => ?_)
  refine lv_aload_n hx hb dL_law_779 rfl (lv_at2 hl) ?_
  refine lv_aload_n hx hb dL_law_780 rfl (lv_at3 hl) ?_
  refine lv_iload_n hx hb dL_law_781 rfl (lv_at0 hl) ?_
  refine lv_iconst (v := 1) hx hb dL_law_782 (by decide) ?_
  refine lv_iadd hx hb dL_law_783 ?_
  refine eqi (x1 := nI (ki + 1)) (nI_add ki 1) ?_
  refine va_sld hx hb hX hbl hbA hS (lw_in hL hki (by decide)) dL_law_784 ?_
  refine eqi (x1 := xs (ki + 1)) (congrArg xs (lw_cl hL hki (by decide))) ?_
  refine lv_aload_n hx hb dL_law_785 rfl (lv_at3 hl) ?_
  refine lv_iload_n hx hb dL_law_786 rfl (lv_at0 hl) ?_
  refine lv_iconst (v := 2) hx hb dL_law_787 (by decide) ?_
  refine lv_iadd hx hb dL_law_788 ?_
  refine eqi (x1 := nI (ki + 2)) (nI_add ki 2) ?_
  refine va_sld hx hb hX hbl hbA hS (lw_in hL hki (by decide)) dL_law_789 ?_
  refine eqi (x1 := xs (ki + 2)) (congrArg xs (lw_cl hL hki (by decide))) ?_
  refine lv_aload_n hx hb dL_law_790 rfl (lv_at3 hl) ?_
  refine lv_iload_n hx hb dL_law_791 rfl (lv_at0 hl) ?_
  refine lv_iconst (v := 3) hx hb dL_law_792 (by decide) ?_
  refine lv_iadd hx hb dL_law_793 ?_
  refine eqi (x1 := nI (ki + 3)) (nI_add ki 3) ?_
  refine va_sld hx hb hX hbl hbA hS (lw_in hL hki (by decide)) dL_law_794 ?_
  refine eqi (x1 := xs (ki + 3)) (congrArg xs (lw_cl hL hki (by decide))) ?_
  refine lk_iV hC hK hl hP hD hS hA (p_knew l G xb (xs (ki + 1)) (xs (ki + 2)) (xs (ki + 3)) bb cc ikp sg do9 ru9 ta9 tp9 ro9 ho9 de9 clk fi la ml mm sl sm cl clm fclm ffi fla fml fmm fsl fsm fc sh r1 rc rh ffc fsh bpersons bpapers bstamps bversions blines bsteps bsayings bfindings bwarnings bquestions td vd vl gp bversionsc kbversions fbversions bpersonsc kbpersons fbpersons bpapersc kbpapers fbpapers blinesc kblines fblines bstepsc kbsteps fbsteps bstampsc kbstamps fbstamps (i_kbversions) (i_kbpersons) (i_kbpapers) (i_kblines) (i_kbsteps) (i_kbstamps) (i_cl)) si_L_79 [0, 57, 58, 59, 60, 61, 62, 63, 64, 65, 94, 95, 96, 1, 8, 9, 2, 3, 4, 5, 10, 11, 12, 13, 6, 7] [0, 13, 16, 17, 18, 19, 24, 25, 14, 15, 20, 21, 22, 23, 1, 2, 3, 4, 5, 6, 7, 8, 9, 10, 11, 12] [true, true, true, true, true, true, true, true, true, true, true, true, true, true, false, false, false, false, false, false, false, false, false, false, false, false, false, false, false, false, false, false, false, false, false, false, false, false, false, false, false, false, false, false, false, false, false, false, false, false, false, false, false, false, false, false, false, true, true, true, true, true, true, true, true, true, false, false, false, false, false, false, false, false, false, false, false, false, false, false, false, false, false, false, false, false, false, false, false, false, false, false, false, false, true, true, true, false, false, false, false, false, false, false, false, false, false, false, false, false, false, false, false, false, false, false, false, false, false, false, false, false, false] rfl rfl (by decide +kernel) (by decide +kernel) rfl rfl rfl rfl rfl (Nat.le_of_ble_eq_true rfl) ⟨Nat.le_of_ble_eq_true rfl, Nat.le_of_ble_eq_true rfl⟩ ⟨by first | exact Nat.le_of_ble_eq_true rfl | omega, by first | exact Nat.le_of_ble_eq_true rfl | omega⟩ dL_law_795 (fun r9529 => Ktu13 fun cl19531 gclm9532 gfi9533 gla9534 gml9535 gmm9536 gsl9537 gsm9538 r119539 rc19540 rh19541 gfc9542 gsh9543 => ?_)
  intro H locs hr9529 hP2 hS
  try dsimp only at hr9529
  refine Kpdr (ws := (WLW G K hf xb bb cc sg do9 ru9 ta9 tp9 ro9 ho9 de9 bpersons bpapers bstamps bversions blines bsteps bsayings bfindings bwarnings bquestions bpersonsc bpapersc bstampsc bversionsc blinesc bstepsc bsayingsc bfindingsc bwarningsc bquestionsc cpersons cpapers cstamps cversions clines csteps csayings cfindings cwarnings cquestions cpersonsc cpapersc cstampsc cversionsc clinesc cstepsc csayingsc cfindingsc cwarningsc cquestionsc tby tln tsp tlnc tspc hs hz hi hw hn ht tr9 clk fi la ml mm sl sm clm hd kc0 km0 kc1 km1 kc2 km2 kc3 km3 kc4 km4 kc5 km5 kc6 km6 kc7 km7 kc8 km8 kc9 km9 kc10 km10 kc11 km11 kc12 km12 fc sh rr tc rrc xm nw nk nt nr nm ns nl nc nF np ntr nb nso nsi nit nsh nsf nss nrc kbpersons kbpapers kbstamps kbversions kblines kbsteps kbsayings kbfindings kbwarnings kbquestions kcpersons kcpapers kcstamps kcversions kclines kcsteps kcsayings kcfindings kcwarnings kcquestions kt ks kn kln ksp jr kr ytp yrm yjr ikp td vd vl gp ktd kvd kvl kgp tkd tf9 dk dn dp da dq cl19531 bo le bi r119539 rc19540 rh19541 tf tt9 tl tbv asd st9 tol mroundOf mroundFrom mfromHour mtoHour mfrom mto msort misFault mdeep mcoded mlines mbestCost mdealer mnumber mwhose msize misParted fbpersons fbpapers fbstamps fbversions fblines fbsteps fbsayings fbfindings fbwarnings fbquestions fcpersons fcpapers fcstamps fcversions fclines fcsteps fcsayings fcfindings fcwarnings fcquestions fby ftln ftsp fhw fhn ftr fhs fhz fhi gclm9532 gfi9533 gla9534 gml9535 gmm9536 gsl9537 gsm9538 fk0 fk1 fk2 fk3 fk4 fk5 fk6 fk7 fk8 fk9 fk10 fk11 fk12 gfc9542 gsh9543 frr ftc fht y_nw y_nk y_nt y_nr y_nm y_ns y_nl y_nc y_np y_ntr y_nb y_nso y_nsi y_nit y_nsh y_nsf y_nss y_nrc)) hP2 (lk_D hD rfl) (fun hP hD => ?_)
  obtain ⟨hr9529, w9544⟩ := hr9529
  refine lv_pop hx hb dL_law_798 rfl ?_
  refine lv_aload_n hx hb dL_law_799 rfl (lv_at1 hl) ?_
  refine lv_aload_n hx hb dL_law_800 rfl (lv_at3 hl) ?_
  refine lv_iload_n hx hb dL_law_801 rfl (lv_at0 hl) ?_
  refine lv_iconst (v := 1) hx hb dL_law_802 (by decide) ?_
  refine lv_iadd hx hb dL_law_803 ?_
  refine eqi (x1 := nI (ki + 1)) (nI_add ki 1) ?_
  refine va_sld hx hb hX hbl hbA hS (lw_in hL hki (by decide)) dL_law_804 ?_
  refine eqi (x1 := xs (ki + 1)) (congrArg xs (lw_cl hL hki (by decide))) ?_
  refine lv_aload_n hx hb dL_law_805 rfl (lv_at3 hl) ?_
  refine lv_iload_n hx hb dL_law_806 rfl (lv_at0 hl) ?_
  refine lv_iconst (v := 2) hx hb dL_law_807 (by decide) ?_
  refine lv_iadd hx hb dL_law_808 ?_
  refine eqi (x1 := nI (ki + 2)) (nI_add ki 2) ?_
  refine va_sld hx hb hX hbl hbA hS (lw_in hL hki (by decide)) dL_law_809 ?_
  refine eqi (x1 := xs (ki + 2)) (congrArg xs (lw_cl hL hki (by decide))) ?_
  refine lv_aload_n hx hb dL_law_810 rfl (lv_at3 hl) ?_
  refine lv_iload_n hx hb dL_law_811 rfl (lv_at0 hl) ?_
  refine lv_iconst (v := 3) hx hb dL_law_812 (by decide) ?_
  refine lv_iadd hx hb dL_law_813 ?_
  refine eqi (x1 := nI (ki + 3)) (nI_add ki 3) ?_
  refine va_sld hx hb hX hbl hbA hS (lw_in hL hki (by decide)) dL_law_814 ?_
  refine eqi (x1 := xs (ki + 3)) (congrArg xs (lw_cl hL hki (by decide))) ?_
  refine lk_iV hC hK hl hP hD hS hA (r_knew l G xm (xs (ki + 1)) (xs (ki + 2)) (xs (ki + 3)) nw nk ikp nt (nI ytp) nr (nI yrm) mroundOf mroundFrom nm mfromHour mtoHour ns mfrom mto msort misFault mdeep mcoded mlines nl nc nF np ntr nb mbestCost nso nsi nit nsh nsf nss nrc (nI yjr) mdealer mnumber mwhose msize misParted y_nw y_nm y_ns y_np (i_nw) (i_vw) (i_mb)) si_L_82 [103, 104, 108, 109, 112] [0, 1, 2, 3, 4] [false, false, false, false, false, false, false, false, false, false, false, false, false, false, false, false, false, false, false, false, false, false, false, false, false, false, false, false, false, false, false, false, false, false, false, false, false, false, false, false, false, false, false, false, false, false, false, false, false, false, false, false, false, false, false, false, false, false, false, false, false, false, false, false, false, false, false, false, false, false, false, false, false, false, false, false, false, false, false, false, false, false, false, false, false, false, false, false, false, false, false, false, false, false, false, false, false, false, false, false, false, false, false, true, true, false, false, false, true, true, false, false, true, false, false, false, false, false, false, false, false, false, false] rfl rfl (by decide +kernel) (by decide +kernel) rfl rfl rfl rfl rfl (Nat.le_of_ble_eq_true rfl) ⟨Nat.le_of_ble_eq_true rfl, Nat.le_of_ble_eq_true rfl⟩ ⟨by first | exact Nat.le_of_ble_eq_true rfl | omega, by first | exact Nat.le_of_ble_eq_true rfl | omega⟩ dL_law_815 (fun r9545 => Ktu5 fun fh19547 th19548 gnm9549 gns9550 gnp9551 => ?_)
  intro H locs hr9545 hP2 hS
  try dsimp only at hr9545
  refine Kpdr (ws := (WLW G K hf xb bb cc sg do9 ru9 ta9 tp9 ro9 ho9 de9 bpersons bpapers bstamps bversions blines bsteps bsayings bfindings bwarnings bquestions bpersonsc bpapersc bstampsc bversionsc blinesc bstepsc bsayingsc bfindingsc bwarningsc bquestionsc cpersons cpapers cstamps cversions clines csteps csayings cfindings cwarnings cquestions cpersonsc cpapersc cstampsc cversionsc clinesc cstepsc csayingsc cfindingsc cwarningsc cquestionsc tby tln tsp tlnc tspc hs hz hi hw hn ht tr9 clk fi la ml mm sl sm clm hd kc0 km0 kc1 km1 kc2 km2 kc3 km3 kc4 km4 kc5 km5 kc6 km6 kc7 km7 kc8 km8 kc9 km9 kc10 km10 kc11 km11 kc12 km12 fc sh rr tc rrc xm nw nk nt nr nm ns nl nc nF np ntr nb nso nsi nit nsh nsf nss nrc kbpersons kbpapers kbstamps kbversions kblines kbsteps kbsayings kbfindings kbwarnings kbquestions kcpersons kcpapers kcstamps kcversions kclines kcsteps kcsayings kcfindings kcwarnings kcquestions kt ks kn kln ksp jr kr ytp yrm yjr ikp td vd vl gp ktd kvd kvl kgp tkd tf9 dk dn dp da dq cl19531 bo le bi r119539 rc19540 rh19541 tf tt9 tl tbv asd st9 tol mroundOf mroundFrom fh19547 th19548 mfrom mto msort misFault mdeep mcoded mlines mbestCost mdealer mnumber mwhose msize misParted fbpersons fbpapers fbstamps fbversions fblines fbsteps fbsayings fbfindings fbwarnings fbquestions fcpersons fcpapers fcstamps fcversions fclines fcsteps fcsayings fcfindings fcwarnings fcquestions fby ftln ftsp fhw fhn ftr fhs fhz fhi gclm9532 gfi9533 gla9534 gml9535 gmm9536 gsl9537 gsm9538 fk0 fk1 fk2 fk3 fk4 fk5 fk6 fk7 fk8 fk9 fk10 fk11 fk12 gfc9542 gsh9543 frr ftc fht y_nw y_nk y_nt y_nr gnm9549 gns9550 y_nl y_nc gnp9551 y_ntr y_nb y_nso y_nsi y_nit y_nsh y_nsf y_nss y_nrc)) hP2 (lk_D hD rfl) (fun hP hD => ?_)
  obtain ⟨hr9545, w9552⟩ := hr9545
  refine lv_pop hx hb dL_law_818 rfl ?_
  refine lv_goto (tgt := 1718) hx hb dL_law_819 (by decide) ?_
  exact hback kbpersons kbpapers kbstamps kbversions kblines kbsteps kbsayings kbfindings kbwarnings kbquestions kcpersons kcpapers kcstamps kcversions kclines kcsteps kcsayings kcfindings kcwarnings kcquestions kt ks kn kln ksp jr kr ytp yrm yjr ikp td vd vl gp ktd kvd kvl kgp tkd tf9 dk dn dp da dq cl19531 bo le bi r119539 rc19540 rh19541 tf tt9 tl tbv asd st9 tol mroundOf mroundFrom fh19547 th19548 mfrom mto msort misFault mdeep mcoded mlines mbestCost mdealer mnumber mwhose msize misParted fbpersons fbpapers fbstamps fbversions fblines fbsteps fbsayings fbfindings fbwarnings fbquestions fcpersons fcpapers fcstamps fcversions fclines fcsteps fcsayings fcfindings fcwarnings fcquestions fby ftln ftsp fhw fhn ftr fhs fhz fhi gclm9532 gfi9533 gla9534 gml9535 gmm9536 gsl9537 gsm9538 fk0 fk1 fk2 fk3 fk4 fk5 fk6 fk7 fk8 fk9 fk10 fk11 fk12 gfc9542 gsh9543 frr ftc fht y_nw y_nk y_nt y_nr gnm9549 gns9550 y_nl y_nc gnp9551 y_ntr y_nb y_nso y_nsi y_nit y_nsh y_nsf y_nss y_nrc H locs ls i_kbpersons i_kbpapers i_kbstamps i_kbversions i_kblines i_kbsteps i_kbsayings i_kbfindings i_kbwarnings i_kbquestions i_kcpersons i_kcpapers i_kcstamps i_kcversions i_kclines i_kcsteps i_kcsayings i_kcfindings i_kcwarnings i_kcquestions i_kt i_ks i_kn i_kln i_ksp i_jr i_kr i_ytp i_yrm i_yjr i_tp (by first | assumption | omega | exact Or.inl rfl | exact Or.inr rfl) i_tol i_ikp i_nw i_vw i_nk i_vk (by first | assumption | omega | exact Or.inl rfl | exact Or.inr rfl) i_b6 i_sz i_sh i_sl i_sp i_sq i_sc i_sk i_epersons i_epapers i_estamps i_esayings i_efindings i_ewarnings i_equestions i_kpersons i_kpapers i_kstamps i_ksayings i_kfindings i_kwarnings i_kquestions hP hD hS (lv_sub hl [0, 1, 2, 3] rfl)
set_option maxHeartbeats 8000000 in
set_option maxRecDepth 100000 in
theorem law_16 : LAWC 822 := by
  intro p l e s m below meth c b L xs G K A hf xb bb cc sg do9 ru9 ta9 tp9 ro9 ho9 de9 bpersons bpapers bstamps bversions blines bsteps bsayings bfindings bwarnings bquestions bpersonsc bpapersc bstampsc bversionsc blinesc bstepsc bsayingsc bfindingsc bwarningsc bquestionsc cpersons cpapers cstamps cversions clines csteps csayings cfindings cwarnings cquestions cpersonsc cpapersc cstampsc cversionsc clinesc cstepsc csayingsc cfindingsc cwarningsc cquestionsc tby tln tsp tlnc tspc hs hz hi hw hn ht tr9 clk fi la ml mm sl sm clm hd kc0 km0 kc1 km1 kc2 km2 kc3 km3 kc4 km4 kc5 km5 kc6 km6 kc7 km7 kc8 km8 kc9 km9 kc10 km10 kc11 km11 kc12 km12 fc sh rr tc rrc xm nw nk nt nr nm ns nl nc nF np ntr nb nso nsi nit nsh nsf nss nrc kbpersons kbpapers kbstamps kbversions kblines kbsteps kbsayings kbfindings kbwarnings kbquestions kcpersons kcpapers kcstamps kcversions kclines kcsteps kcsayings kcfindings kcwarnings kcquestions kt ks kn kln ksp jr kr ytp yrm yjr ikp td vd vl gp ktd kvd kvl kgp tkd tf9 dk dn dp da dq cl bo le bi r1 rc rh tf tt9 tl tbv asd st9 tol mroundOf mroundFrom mfromHour mtoHour mfrom mto msort misFault mdeep mcoded mlines mbestCost mdealer mnumber mwhose msize misParted fbpersons fbpapers fbstamps fbversions fblines fbsteps fbsayings fbfindings fbwarnings fbquestions fcpersons fcpapers fcstamps fcversions fclines fcsteps fcsayings fcfindings fcwarnings fcquestions fby ftln ftsp fhw fhn ftr fhs fhz fhi fclm ffi fla fml fmm fsl fsm fk0 fk1 fk2 fk3 fk4 fk5 fk6 fk7 fk8 fk9 fk10 fk11 fk12 ffc fsh frr ftc fht y_nw y_nk y_nt y_nr y_nm y_ns y_nl y_nc y_np y_ntr y_nb y_nso y_nsi y_nit y_nsh y_nsf y_nss y_nrc H locs ls ki hC hK hO hX hL hbl hbA hA hA2 hki hf0 hf1 hf2 hf3 hf4 hf5 hf6 hf7 hf8 hf9 hf10 hf11 hf12 i_kbpersons i_kbpapers i_kbstamps i_kbversions i_kblines i_kbsteps i_kbsayings i_kbfindings i_kbwarnings i_kbquestions i_kcpersons i_kcpapers i_kcstamps i_kcversions i_kclines i_kcsteps i_kcsayings i_kcfindings i_kcwarnings i_kcquestions i_kt i_ks i_kn i_kln i_ksp i_jr i_kr i_ytp i_yrm i_yjr i_tp i_cl i_tol i_ikp i_nw i_vw i_nk i_vk i_mb i_b6 i_sz i_sh i_sl i_sp i_sq i_sc i_sk i_epersons i_epapers i_estamps i_esayings i_efindings i_ewarnings i_equestions i_kpersons i_kpapers i_kstamps i_ksayings i_kfindings i_kwarnings i_kquestions hback hP hD hS hl
  refine Kan8 hC (fun hx hb hr hml hB hown hlocks hnm => ?_)
  refine lv_aload_n hx hb dL_law_822 rfl (lv_at2 hl) ?_
  refine lv_aload_n hx hb dL_law_823 rfl (lv_at3 hl) ?_
  refine lv_iload_n hx hb dL_law_824 rfl (lv_at0 hl) ?_
  refine lv_iconst (v := 1) hx hb dL_law_825 (by decide) ?_
  refine lv_iadd hx hb dL_law_826 ?_
  refine eqi (x1 := nI (ki + 1)) (nI_add ki 1) ?_
  refine va_sld hx hb hX hbl hbA hS (lw_in hL hki (by decide)) dL_law_827 ?_
  refine eqi (x1 := xs (ki + 1)) (congrArg xs (lw_cl hL hki (by decide))) ?_
  refine lv_i2l hx hb dL_law_828 rfl ?_
  refine lv_bipush (v := 32) hx hb dL_law_829 (by decide) ?_
  refine lv_lshl hx hb dL_law_831 rfl ?_
  refine lv_topl (fun x9553 _ => ?_)
  refine lv_aload_n hx hb dL_law_832 rfl (lv_at3 hl) ?_
  refine lv_iload_n hx hb dL_law_833 rfl (lv_at0 hl) ?_
  refine lv_iconst (v := 2) hx hb dL_law_834 (by decide) ?_
  refine lv_iadd hx hb dL_law_835 ?_
  refine eqi (x1 := nI (ki + 2)) (nI_add ki 2) ?_
  refine va_sld hx hb hX hbl hbA hS (lw_in hL hki (by decide)) dL_law_836 ?_
  refine eqi (x1 := xs (ki + 2)) (congrArg xs (lw_cl hL hki (by decide))) ?_
  refine lv_i2l hx hb dL_law_837 rfl ?_
  refine lv_ldc2 hx hb hown (hB _ m_1426) dL_law_838 ?_
  refine lv_land hx hb dL_law_841 ?_
  refine lv_lor hx hb dL_law_842 ?_
  refine lv_aload_n hx hb dL_law_843 rfl (lv_at3 hl) ?_
  refine lv_iload_n hx hb dL_law_844 rfl (lv_at0 hl) ?_
  refine lv_iconst (v := 3) hx hb dL_law_845 (by decide) ?_
  refine lv_iadd hx hb dL_law_846 ?_
  refine eqi (x1 := nI (ki + 3)) (nI_add ki 3) ?_
  refine va_sld hx hb hX hbl hbA hS (lw_in hL hki (by decide)) dL_law_847 ?_
  refine eqi (x1 := xs (ki + 3)) (congrArg xs (lw_cl hL hki (by decide))) ?_
  refine lk_iV hC hK hl hP hD hS hA (p_feed l G xb (x9553 ||| (((xs (ki + 2)).toInt64) &&& 4294967295)) (xs (ki + 3)) bb cc ikp sg do9 ru9 ta9 tp9 ro9 ho9 de9 tby kt tln tsp tkd (nI ks) (nI kn) tf9 fby (i_kt)) si_L_85 [0, 43, 44] [0, 1, 2] [true, false, false, false, false, false, false, false, false, false, false, false, false, false, false, false, false, false, false, false, false, false, false, false, false, false, false, false, false, false, false, false, false, false, false, false, false, false, false, false, false, false, false, true, true, false, false, false, false, false, false, false, false, false, false, false, false, false, false, false, false, false, false, false, false, false, false, false, false, false, false, false, false, false, false, false, false, false, false, false, false, false, false, false, false, false, false, false, false, false, false, false, false, false, false, false, false, false, false, false, false, false, false, false, false, false, false, false, false, false, false, false, false, false, false, false, false, false, false, false, false, false, false] rfl rfl (by decide +kernel) (by decide +kernel) rfl rfl rfl rfl rfl (Nat.le_of_ble_eq_true rfl) ⟨Nat.le_of_ble_eq_true rfl, Nat.le_of_ble_eq_true rfl⟩ ⟨by first | exact Nat.le_of_ble_eq_true rfl | omega, by first | exact Nat.le_of_ble_eq_true rfl | omega⟩ dL_law_848 (fun r9554 => Ktu2 fun nt9556 gby9557 => ?_)
  intro H locs hr9554 hP2 hS
  try dsimp only at hr9554
  refine Kpdr (ws := (WLW G K hf xb bb cc sg do9 ru9 ta9 tp9 ro9 ho9 de9 bpersons bpapers bstamps bversions blines bsteps bsayings bfindings bwarnings bquestions bpersonsc bpapersc bstampsc bversionsc blinesc bstepsc bsayingsc bfindingsc bwarningsc bquestionsc cpersons cpapers cstamps cversions clines csteps csayings cfindings cwarnings cquestions cpersonsc cpapersc cstampsc cversionsc clinesc cstepsc csayingsc cfindingsc cwarningsc cquestionsc tby tln tsp tlnc tspc hs hz hi hw hn ht tr9 clk fi la ml mm sl sm clm hd kc0 km0 kc1 km1 kc2 km2 kc3 km3 kc4 km4 kc5 km5 kc6 km6 kc7 km7 kc8 km8 kc9 km9 kc10 km10 kc11 km11 kc12 km12 fc sh rr tc rrc xm nw nk nt nr nm ns nl nc nF np ntr nb nso nsi nit nsh nsf nss nrc kbpersons kbpapers kbstamps kbversions kblines kbsteps kbsayings kbfindings kbwarnings kbquestions kcpersons kcpapers kcstamps kcversions kclines kcsteps kcsayings kcfindings kcwarnings kcquestions nt9556 ks kn kln ksp jr kr ytp yrm yjr ikp td vd vl gp ktd kvd kvl kgp tkd tf9 dk dn dp da dq cl bo le bi r1 rc rh tf tt9 tl tbv asd st9 tol mroundOf mroundFrom mfromHour mtoHour mfrom mto msort misFault mdeep mcoded mlines mbestCost mdealer mnumber mwhose msize misParted fbpersons fbpapers fbstamps fbversions fblines fbsteps fbsayings fbfindings fbwarnings fbquestions fcpersons fcpapers fcstamps fcversions fclines fcsteps fcsayings fcfindings fcwarnings fcquestions gby9557 ftln ftsp fhw fhn ftr fhs fhz fhi fclm ffi fla fml fmm fsl fsm fk0 fk1 fk2 fk3 fk4 fk5 fk6 fk7 fk8 fk9 fk10 fk11 fk12 ffc fsh frr ftc fht y_nw y_nk y_nt y_nr y_nm y_ns y_nl y_nc y_np y_ntr y_nb y_nso y_nsi y_nit y_nsh y_nsf y_nss y_nrc)) hP2 (lk_D hD rfl) (fun hP hD => ?_)
  obtain ⟨hr9554, w9558⟩ := hr9554
  obtain rfl := hr9554
  refine lv_pop hx hb dL_law_851 rfl ?_
  refine lv_aload_n hx hb dL_law_852 rfl (lv_at1 hl) ?_
  refine lv_aload_n hx hb dL_law_853 rfl (lv_at3 hl) ?_
  refine lv_iload_n hx hb dL_law_854 rfl (lv_at0 hl) ?_
  refine lv_iconst (v := 1) hx hb dL_law_855 (by decide) ?_
  refine lv_iadd hx hb dL_law_856 ?_
  refine eqi (x1 := nI (ki + 1)) (nI_add ki 1) ?_
  refine va_sld hx hb hX hbl hbA hS (lw_in hL hki (by decide)) dL_law_857 ?_
  refine eqi (x1 := xs (ki + 1)) (congrArg xs (lw_cl hL hki (by decide))) ?_
  refine lv_i2l hx hb dL_law_858 rfl ?_
  refine lv_bipush (v := 32) hx hb dL_law_859 (by decide) ?_
  refine lv_lshl hx hb dL_law_861 rfl ?_
  refine lv_topl (fun x9560 _ => ?_)
  refine lv_aload_n hx hb dL_law_862 rfl (lv_at3 hl) ?_
  refine lv_iload_n hx hb dL_law_863 rfl (lv_at0 hl) ?_
  refine lv_iconst (v := 2) hx hb dL_law_864 (by decide) ?_
  refine lv_iadd hx hb dL_law_865 ?_
  refine eqi (x1 := nI (ki + 2)) (nI_add ki 2) ?_
  refine va_sld hx hb hX hbl hbA hS (lw_in hL hki (by decide)) dL_law_866 ?_
  refine eqi (x1 := xs (ki + 2)) (congrArg xs (lw_cl hL hki (by decide))) ?_
  refine lv_i2l hx hb dL_law_867 rfl ?_
  refine lv_ldc2 hx hb hown (hB _ m_1426) dL_law_868 ?_
  refine lv_land hx hb dL_law_871 ?_
  refine lv_lor hx hb dL_law_872 ?_
  refine lv_aload_n hx hb dL_law_873 rfl (lv_at3 hl) ?_
  refine lv_iload_n hx hb dL_law_874 rfl (lv_at0 hl) ?_
  refine lv_iconst (v := 3) hx hb dL_law_875 (by decide) ?_
  refine lv_iadd hx hb dL_law_876 ?_
  refine eqi (x1 := nI (ki + 3)) (nI_add ki 3) ?_
  refine va_sld hx hb hX hbl hbA hS (lw_in hL hki (by decide)) dL_law_877 ?_
  refine eqi (x1 := xs (ki + 3)) (congrArg xs (lw_cl hL hki (by decide))) ?_
  refine lk_iV hC hK hl hP hD hS hA (w_feed l G xm (x9560 ||| (((xs (ki + 2)).toInt64) &&& 4294967295)) (xs (ki + 3)) nw nk ikp nt ytp nr (nI yrm) mroundOf mroundFrom 0 nm mfromHour mtoHour ns mfrom mto msort misFault mdeep mcoded mlines nl nc nF np ntr nb mbestCost nso nsi nit nsh nsf nss nrc (nI yjr) mdealer mnumber mwhose msize misParted y_nt (i_ytp)) si_L_89 [103, 106] [0, 1] [false, false, false, false, false, false, false, false, false, false, false, false, false, false, false, false, false, false, false, false, false, false, false, false, false, false, false, false, false, false, false, false, false, false, false, false, false, false, false, false, false, false, false, false, false, false, false, false, false, false, false, false, false, false, false, false, false, false, false, false, false, false, false, false, false, false, false, false, false, false, false, false, false, false, false, false, false, false, false, false, false, false, false, false, false, false, false, false, false, false, false, false, false, false, false, false, false, false, false, false, false, false, false, true, false, false, true, false, false, false, false, false, false, false, false, false, false, false, false, false, false, false, false] rfl rfl (by decide +kernel) (by decide +kernel) rfl rfl rfl rfl rfl (Nat.le_of_ble_eq_true rfl) ⟨Nat.le_of_ble_eq_true rfl, Nat.le_of_ble_eq_true rfl⟩ ⟨by first | exact Nat.le_of_ble_eq_true rfl | omega, by first | exact Nat.le_of_ble_eq_true rfl | omega⟩ dL_law_878 (fun r9561 => Ktu2 fun kt19563 gnt9564 => ?_)
  intro H locs hr9561 hP2 hS
  try dsimp only at hr9561
  refine Kpdr (ws := (WLW G K hf xb bb cc sg do9 ru9 ta9 tp9 ro9 ho9 de9 bpersons bpapers bstamps bversions blines bsteps bsayings bfindings bwarnings bquestions bpersonsc bpapersc bstampsc bversionsc blinesc bstepsc bsayingsc bfindingsc bwarningsc bquestionsc cpersons cpapers cstamps cversions clines csteps csayings cfindings cwarnings cquestions cpersonsc cpapersc cstampsc cversionsc clinesc cstepsc csayingsc cfindingsc cwarningsc cquestionsc tby tln tsp tlnc tspc hs hz hi hw hn ht tr9 clk fi la ml mm sl sm clm hd kc0 km0 kc1 km1 kc2 km2 kc3 km3 kc4 km4 kc5 km5 kc6 km6 kc7 km7 kc8 km8 kc9 km9 kc10 km10 kc11 km11 kc12 km12 fc sh rr tc rrc xm nw nk nt nr nm ns nl nc nF np ntr nb nso nsi nit nsh nsf nss nrc kbpersons kbpapers kbstamps kbversions kblines kbsteps kbsayings kbfindings kbwarnings kbquestions kcpersons kcpapers kcstamps kcversions kclines kcsteps kcsayings kcfindings kcwarnings kcquestions nt9556 ks kn kln ksp jr kr kt19563 yrm yjr ikp td vd vl gp ktd kvd kvl kgp tkd tf9 dk dn dp da dq cl bo le bi r1 rc rh tf tt9 tl tbv asd st9 tol mroundOf mroundFrom mfromHour mtoHour mfrom mto msort misFault mdeep mcoded mlines mbestCost mdealer mnumber mwhose msize misParted fbpersons fbpapers fbstamps fbversions fblines fbsteps fbsayings fbfindings fbwarnings fbquestions fcpersons fcpapers fcstamps fcversions fclines fcsteps fcsayings fcfindings fcwarnings fcquestions gby9557 ftln ftsp fhw fhn ftr fhs fhz fhi fclm ffi fla fml fmm fsl fsm fk0 fk1 fk2 fk3 fk4 fk5 fk6 fk7 fk8 fk9 fk10 fk11 fk12 ffc fsh frr ftc fht y_nw y_nk gnt9564 y_nr y_nm y_ns y_nl y_nc y_np y_ntr y_nb y_nso y_nsi y_nit y_nsh y_nsf y_nss y_nrc)) hP2 (lk_D hD rfl) (fun hP hD => ?_)
  obtain ⟨hr9561, w9565⟩ := hr9561
  obtain rfl := hr9561
  refine lv_pop hx hb dL_law_881 rfl ?_
  refine lv_goto (tgt := 1718) hx hb dL_law_882 (by decide) ?_
  obtain ⟨z9567, z9568⟩ := w9558
  obtain ⟨z9569, z9570⟩ := w9565
  have htp9 : kt19563 = nt9556 := (nI_eq (by omega) (by omega)).mp (by have h9 := z9570; rw [i_tp] at h9; exact h9.trans z9568.symm)
  exact hback kbpersons kbpapers kbstamps kbversions kblines kbsteps kbsayings kbfindings kbwarnings kbquestions kcpersons kcpapers kcstamps kcversions kclines kcsteps kcsayings kcfindings kcwarnings kcquestions nt9556 ks kn kln ksp jr kr kt19563 yrm yjr ikp td vd vl gp ktd kvd kvl kgp tkd tf9 dk dn dp da dq cl bo le bi r1 rc rh tf tt9 tl tbv asd st9 tol mroundOf mroundFrom mfromHour mtoHour mfrom mto msort misFault mdeep mcoded mlines mbestCost mdealer mnumber mwhose msize misParted fbpersons fbpapers fbstamps fbversions fblines fbsteps fbsayings fbfindings fbwarnings fbquestions fcpersons fcpapers fcstamps fcversions fclines fcsteps fcsayings fcfindings fcwarnings fcquestions gby9557 ftln ftsp fhw fhn ftr fhs fhz fhi fclm ffi fla fml fmm fsl fsm fk0 fk1 fk2 fk3 fk4 fk5 fk6 fk7 fk8 fk9 fk10 fk11 fk12 ffc fsh frr ftc fht y_nw y_nk gnt9564 y_nr y_nm y_ns y_nl y_nc y_np y_ntr y_nb y_nso y_nsi y_nit y_nsh y_nsf y_nss y_nrc H locs ls i_kbpersons i_kbpapers i_kbstamps i_kbversions i_kblines i_kbsteps i_kbsayings i_kbfindings i_kbwarnings i_kbquestions i_kcpersons i_kcpapers i_kcstamps i_kcversions i_kclines i_kcsteps i_kcsayings i_kcfindings i_kcwarnings i_kcquestions (by first | assumption | omega | exact Or.inl rfl | exact Or.inr rfl) i_ks i_kn i_kln i_ksp i_jr i_kr (by first | assumption | omega | exact Or.inl rfl | exact Or.inr rfl) i_yrm i_yjr (by first | assumption | omega | exact Or.inl rfl | exact Or.inr rfl) i_cl i_tol i_ikp i_nw i_vw i_nk i_vk i_mb i_b6 i_sz i_sh i_sl i_sp i_sq i_sc i_sk i_epersons i_epapers i_estamps i_esayings i_efindings i_ewarnings i_equestions i_kpersons i_kpapers i_kstamps i_ksayings i_kfindings i_kwarnings i_kquestions hP hD hS (lv_sub hl [0, 1, 2, 3] rfl)
set_option maxHeartbeats 8000000 in
set_option maxRecDepth 100000 in
theorem law_17 : LAWC 885 := by
  intro p l e s m below meth c b L xs G K A hf xb bb cc sg do9 ru9 ta9 tp9 ro9 ho9 de9 bpersons bpapers bstamps bversions blines bsteps bsayings bfindings bwarnings bquestions bpersonsc bpapersc bstampsc bversionsc blinesc bstepsc bsayingsc bfindingsc bwarningsc bquestionsc cpersons cpapers cstamps cversions clines csteps csayings cfindings cwarnings cquestions cpersonsc cpapersc cstampsc cversionsc clinesc cstepsc csayingsc cfindingsc cwarningsc cquestionsc tby tln tsp tlnc tspc hs hz hi hw hn ht tr9 clk fi la ml mm sl sm clm hd kc0 km0 kc1 km1 kc2 km2 kc3 km3 kc4 km4 kc5 km5 kc6 km6 kc7 km7 kc8 km8 kc9 km9 kc10 km10 kc11 km11 kc12 km12 fc sh rr tc rrc xm nw nk nt nr nm ns nl nc nF np ntr nb nso nsi nit nsh nsf nss nrc kbpersons kbpapers kbstamps kbversions kblines kbsteps kbsayings kbfindings kbwarnings kbquestions kcpersons kcpapers kcstamps kcversions kclines kcsteps kcsayings kcfindings kcwarnings kcquestions kt ks kn kln ksp jr kr ytp yrm yjr ikp td vd vl gp ktd kvd kvl kgp tkd tf9 dk dn dp da dq cl bo le bi r1 rc rh tf tt9 tl tbv asd st9 tol mroundOf mroundFrom mfromHour mtoHour mfrom mto msort misFault mdeep mcoded mlines mbestCost mdealer mnumber mwhose msize misParted fbpersons fbpapers fbstamps fbversions fblines fbsteps fbsayings fbfindings fbwarnings fbquestions fcpersons fcpapers fcstamps fcversions fclines fcsteps fcsayings fcfindings fcwarnings fcquestions fby ftln ftsp fhw fhn ftr fhs fhz fhi fclm ffi fla fml fmm fsl fsm fk0 fk1 fk2 fk3 fk4 fk5 fk6 fk7 fk8 fk9 fk10 fk11 fk12 ffc fsh frr ftc fht y_nw y_nk y_nt y_nr y_nm y_ns y_nl y_nc y_np y_ntr y_nb y_nso y_nsi y_nit y_nsh y_nsf y_nss y_nrc H locs ls ki hC hK hO hX hL hbl hbA hA hA2 hki hf0 hf1 hf2 hf3 hf4 hf5 hf6 hf7 hf8 hf9 hf10 hf11 hf12 i_kbpersons i_kbpapers i_kbstamps i_kbversions i_kblines i_kbsteps i_kbsayings i_kbfindings i_kbwarnings i_kbquestions i_kcpersons i_kcpapers i_kcstamps i_kcversions i_kclines i_kcsteps i_kcsayings i_kcfindings i_kcwarnings i_kcquestions i_kt i_ks i_kn i_kln i_ksp i_jr i_kr i_ytp i_yrm i_yjr i_tp i_cl i_tol i_ikp i_nw i_vw i_nk i_vk i_mb i_b6 i_sz i_sh i_sl i_sp i_sq i_sc i_sk i_epersons i_epapers i_estamps i_esayings i_efindings i_ewarnings i_equestions i_kpersons i_kpapers i_kstamps i_ksayings i_kfindings i_kwarnings i_kquestions hback hP hD hS hl
  refine Kan8 hC (fun hx hb hr hml hB hown hlocks hnm => ?_)
  refine lv_aload_n hx hb dL_law_885 rfl (lv_at2 hl) ?_
  refine lk_iVo hO hC hK hl hP hD hS hA (p_read l G K xb bb cc ikp sg do9 ru9 ta9 tp9 ro9 ho9 de9 tby kt tln tsp tkd ks kn tf9 fby tlnc kln ftln tspc ksp ftsp bpersons bpapers bstamps bversions blines bsteps bsayings bfindings bwarnings bquestions td vd vl gp bversionsc kbversions fbversions blinesc kblines fblines bstepsc kbsteps fbsteps (i_kt) (i_ks) (i_kn) (i_kln) (i_ksp) (i_kbversions) (i_kblines) (i_kbsteps)) si_L_90 [0, 43, 44, 45, 46, 47, 48, 1, 8, 9, 10, 11, 12, 13] [0, 7, 8, 9, 10, 11, 12, 13, 1, 2, 3, 4, 5, 6] [true, true, false, false, false, false, false, false, true, true, true, true, true, true, false, false, false, false, false, false, false, false, false, false, false, false, false, false, false, false, false, false, false, false, false, false, false, false, false, false, false, false, false, true, true, true, true, true, true, false, false, false, false, false, false, false, false, false, false, false, false, false, false, false, false, false, false, false, false, false, false, false, false, false, false, false, false, false, false, false, false, false, false, false, false, false, false, false, false, false, false, false, false, false, false, false, false, false, false, false, false, false, false, false, false, false, false, false, false, false, false, false, false, false, false, false, false, false, false, false, false, false, false] rfl rfl (by decide +kernel) (by decide +kernel) rfl rfl rfl rfl rfl (Nat.le_of_ble_eq_true rfl) ⟨Nat.le_of_ble_eq_true rfl, Nat.le_of_ble_eq_true rfl⟩ ⟨by first | exact Nat.le_of_ble_eq_true rfl | omega, by first | exact Nat.le_of_ble_eq_true rfl | omega⟩ dL_law_886 (fun r9571 u9572 H locs hr9571 hP2 hS => ?_)
  obtain ⟨kd19573, ks19574, kn19575, tf19576, kln19577, gtln9578, ksp19579, gtsp9580, kt19581, kv19582, kl19583, kp19584, gversions9585, glines9586, gsteps9587⟩ := u9572
  try dsimp only at hr9571
  refine Kpdr (ws := (WLW G K hf xb bb cc sg do9 ru9 ta9 tp9 ro9 ho9 de9 bpersons bpapers bstamps bversions blines bsteps bsayings bfindings bwarnings bquestions bpersonsc bpapersc bstampsc bversionsc blinesc bstepsc bsayingsc bfindingsc bwarningsc bquestionsc cpersons cpapers cstamps cversions clines csteps csayings cfindings cwarnings cquestions cpersonsc cpapersc cstampsc cversionsc clinesc cstepsc csayingsc cfindingsc cwarningsc cquestionsc tby tln tsp tlnc tspc hs hz hi hw hn ht tr9 clk fi la ml mm sl sm clm hd kc0 km0 kc1 km1 kc2 km2 kc3 km3 kc4 km4 kc5 km5 kc6 km6 kc7 km7 kc8 km8 kc9 km9 kc10 km10 kc11 km11 kc12 km12 fc sh rr tc rrc xm nw nk nt nr nm ns nl nc nF np ntr nb nso nsi nit nsh nsf nss nrc kbpersons kbpapers kbstamps kv19582 kl19583 kp19584 kbsayings kbfindings kbwarnings kbquestions kcpersons kcpapers kcstamps kcversions kclines kcsteps kcsayings kcfindings kcwarnings kcquestions kt19581 ks19574 kn19575 kln19577 ksp19579 jr kr ytp yrm yjr ikp td vd vl gp ktd kvd kvl kgp kd19573 tf19576 dk dn dp da dq cl bo le bi r1 rc rh tf tt9 tl tbv asd st9 tol mroundOf mroundFrom mfromHour mtoHour mfrom mto msort misFault mdeep mcoded mlines mbestCost mdealer mnumber mwhose msize misParted fbpersons fbpapers fbstamps gversions9585 glines9586 gsteps9587 fbsayings fbfindings fbwarnings fbquestions fcpersons fcpapers fcstamps fcversions fclines fcsteps fcsayings fcfindings fcwarnings fcquestions fby gtln9578 gtsp9580 fhw fhn ftr fhs fhz fhi fclm ffi fla fml fmm fsl fsm fk0 fk1 fk2 fk3 fk4 fk5 fk6 fk7 fk8 fk9 fk10 fk11 fk12 ffc fsh frr ftc fht y_nw y_nk y_nt y_nr y_nm y_ns y_nl y_nc y_np y_ntr y_nb y_nso y_nsi y_nit y_nsh y_nsf y_nss y_nrc)) hP2 (lk_D hD rfl) (fun hP hD => ?_)
  obtain ⟨hr9571, w9588⟩ := hr9571
  refine lv_pop hx hb dL_law_889 rfl ?_
  refine lv_aload_n hx hb dL_law_890 rfl (lv_at1 hl) ?_
  refine lk_iVo hO hC hK hl hP hD hS hA (w_read l G K xm nw nk ikp nt ytp nr (nI yrm) mroundOf mroundFrom 0 nm mfromHour mtoHour ns mfrom mto msort misFault mdeep mcoded mlines nl nc nF np ntr nb mbestCost nso nsi nit nsh nsf nss nrc (nI yjr) mdealer mnumber mwhose msize misParted y_nw y_nt y_nc y_nl (i_nw) (i_vw) (i_ytp)) si_L_94 [103, 104, 106, 111, 110, 122] [0, 1, 2, 4, 3, 5] [false, false, false, false, false, false, false, false, false, false, false, false, false, false, false, false, false, false, false, false, false, false, false, false, false, false, false, false, false, false, false, false, false, false, false, false, false, false, false, false, false, false, false, false, false, false, false, false, false, false, false, false, false, false, false, false, false, false, false, false, false, false, false, false, false, false, false, false, false, false, false, false, false, false, false, false, false, false, false, false, false, false, false, false, false, false, false, false, false, false, false, false, false, false, false, false, false, false, false, false, false, false, false, true, true, false, true, false, false, false, true, true, false, false, false, false, false, false, false, false, false, false, true] rfl rfl (by decide +kernel) (by decide +kernel) rfl rfl rfl rfl rfl (Nat.le_of_ble_eq_true rfl) ⟨Nat.le_of_ble_eq_true rfl, Nat.le_of_ble_eq_true rfl⟩ ⟨by first | exact Nat.le_of_ble_eq_true rfl | omega, by first | exact Nat.le_of_ble_eq_true rfl | omega⟩ dL_law_891 (fun r9589 u9590 H locs hr9589 hP2 hS => ?_)
  obtain ⟨ff19591, kf19592, kt19593, so19594, kc19595, kl19596, gnw9597, gnc9598, gnl9599⟩ := u9590
  try dsimp only at hr9589
  refine Kpdr (ws := (WLW G K hf xb bb cc sg do9 ru9 ta9 tp9 ro9 ho9 de9 bpersons bpapers bstamps bversions blines bsteps bsayings bfindings bwarnings bquestions bpersonsc bpapersc bstampsc bversionsc blinesc bstepsc bsayingsc bfindingsc bwarningsc bquestionsc cpersons cpapers cstamps cversions clines csteps csayings cfindings cwarnings cquestions cpersonsc cpapersc cstampsc cversionsc clinesc cstepsc csayingsc cfindingsc cwarningsc cquestionsc tby tln tsp tlnc tspc hs hz hi hw hn ht tr9 clk fi la ml mm sl sm clm hd kc0 km0 kc1 km1 kc2 km2 kc3 km3 kc4 km4 kc5 km5 kc6 km6 kc7 km7 kc8 km8 kc9 km9 kc10 km10 kc11 km11 kc12 km12 fc sh rr tc rrc xm nw nk nt nr nm ns nl nc nF np ntr nb nso nsi nit nsh nsf nss nrc kbpersons kbpapers kbstamps kv19582 kl19583 kp19584 kbsayings kbfindings kbwarnings kbquestions kcpersons kcpapers kcstamps kcversions kclines kcsteps kcsayings kcfindings kcwarnings kcquestions kt19581 ks19574 kn19575 kln19577 ksp19579 jr kr 0 yrm yjr ikp td vd vl gp ktd kvd kvl kgp kd19573 tf19576 dk dn dp da dq cl bo le bi r1 rc rh tf tt9 tl tbv asd st9 tol mroundOf mroundFrom mfromHour mtoHour (nI kf19592) (nI kt19593) so19594 ff19591 0 (nI kc19595) (nI kl19596) mbestCost mdealer mnumber mwhose msize misParted fbpersons fbpapers fbstamps gversions9585 glines9586 gsteps9587 fbsayings fbfindings fbwarnings fbquestions fcpersons fcpapers fcstamps fcversions fclines fcsteps fcsayings fcfindings fcwarnings fcquestions fby gtln9578 gtsp9580 fhw fhn ftr fhs fhz fhi fclm ffi fla fml fmm fsl fsm fk0 fk1 fk2 fk3 fk4 fk5 fk6 fk7 fk8 fk9 fk10 fk11 fk12 ffc fsh frr ftc fht gnw9597 y_nk y_nt y_nr y_nm y_ns gnl9599 gnc9598 y_np y_ntr y_nb y_nso y_nsi y_nit y_nsh y_nsf y_nss y_nrc)) hP2 (lk_D hD rfl) (fun hP hD => ?_)
  obtain ⟨hr9589, w9600⟩ := hr9589
  refine lv_pop hx hb dL_law_894 rfl ?_
  refine lv_goto (tgt := 1718) hx hb dL_law_895 (by decide) ?_
  obtain ⟨z9601, z9602, z9603, z9604, z9605, z9606, z9607, z9608⟩ := w9588
  obtain ⟨z9609, z9610, z9611, z9612⟩ := w9600
  have hs_y_nw : SCX gnw9597 td vd vl gp (nI kbpersons) (nI kbpapers) (nI kbstamps) (nI kbsayings) (nI kbfindings) (nI kbwarnings) (nI kbquestions) := SCX.tr i_sc z9611
  have he_persons : EQT gnw9597 12 20 fbpersons := EQT.fr i_epersons z9612 (by decide) (by decide)
  have he_papers : EQT gnw9597 32 72 fbpapers := EQT.fr i_epapers z9612 (by decide) (by decide)
  have he_stamps : EQT gnw9597 104 72 fbstamps := EQT.fr i_estamps z9612 (by decide) (by decide)
  have he_sayings : EQT gnw9597 1424 128 fbsayings := EQT.fr i_esayings z9612 (by decide) (by decide)
  have he_findings : EQT gnw9597 1552 48 fbfindings := EQT.fr i_efindings z9612 (by decide) (by decide)
  have he_warnings : EQT gnw9597 1600 48 fbwarnings := EQT.fr i_ewarnings z9612 (by decide) (by decide)
  have he_questions : EQT gnw9597 1648 14 fbquestions := EQT.fr i_equestions z9612 (by decide) (by decide)
  exact hback kbpersons kbpapers kbstamps kv19582 kl19583 kp19584 kbsayings kbfindings kbwarnings kbquestions kcpersons kcpapers kcstamps kcversions kclines kcsteps kcsayings kcfindings kcwarnings kcquestions kt19581 ks19574 kn19575 kln19577 ksp19579 jr kr 0 yrm yjr ikp td vd vl gp ktd kvd kvl kgp kd19573 tf19576 dk dn dp da dq cl bo le bi r1 rc rh tf tt9 tl tbv asd st9 tol mroundOf mroundFrom mfromHour mtoHour (nI kf19592) (nI kt19593) so19594 ff19591 0 (nI kc19595) (nI kl19596) mbestCost mdealer mnumber mwhose msize misParted fbpersons fbpapers fbstamps gversions9585 glines9586 gsteps9587 fbsayings fbfindings fbwarnings fbquestions fcpersons fcpapers fcstamps fcversions fclines fcsteps fcsayings fcfindings fcwarnings fcquestions fby gtln9578 gtsp9580 fhw fhn ftr fhs fhz fhi fclm ffi fla fml fmm fsl fsm fk0 fk1 fk2 fk3 fk4 fk5 fk6 fk7 fk8 fk9 fk10 fk11 fk12 ffc fsh frr ftc fht gnw9597 y_nk y_nt y_nr y_nm y_ns gnl9599 gnc9598 y_np y_ntr y_nb y_nso y_nsi y_nit y_nsh y_nsf y_nss y_nrc H locs ls i_kbpersons i_kbpapers i_kbstamps (by first | assumption | omega | exact Or.inl rfl | exact Or.inr rfl) (by first | assumption | omega | exact Or.inl rfl | exact Or.inr rfl) (by first | assumption | omega | exact Or.inl rfl | exact Or.inr rfl) i_kbsayings i_kbfindings i_kbwarnings i_kbquestions i_kcpersons i_kcpapers i_kcstamps i_kcversions i_kclines i_kcsteps i_kcsayings i_kcfindings i_kcwarnings i_kcquestions (by first | assumption | omega | exact Or.inl rfl | exact Or.inr rfl) (by first | assumption | omega | exact Or.inl rfl | exact Or.inr rfl) (by first | assumption | omega | exact Or.inl rfl | exact Or.inr rfl) (by first | assumption | omega | exact Or.inl rfl | exact Or.inr rfl) (by first | assumption | omega | exact Or.inl rfl | exact Or.inr rfl) i_jr i_kr (by first | assumption | omega | exact Or.inl rfl | exact Or.inr rfl) i_yrm i_yjr (by first | assumption | omega | exact Or.inl rfl | exact Or.inr rfl) i_cl i_tol i_ikp (by first | assumption | omega | exact Or.inl rfl | exact Or.inr rfl) (by first | assumption | omega | exact Or.inl rfl | exact Or.inr rfl) i_nk i_vk i_mb i_b6 i_sz i_sh i_sl i_sp i_sq (by first | assumption | omega | exact Or.inl rfl | exact Or.inr rfl) i_sk (by first | assumption | omega | exact Or.inl rfl | exact Or.inr rfl) (by first | assumption | omega | exact Or.inl rfl | exact Or.inr rfl) (by first | assumption | omega | exact Or.inl rfl | exact Or.inr rfl) (by first | assumption | omega | exact Or.inl rfl | exact Or.inr rfl) (by first | assumption | omega | exact Or.inl rfl | exact Or.inr rfl) (by first | assumption | omega | exact Or.inl rfl | exact Or.inr rfl) (by first | assumption | omega | exact Or.inl rfl | exact Or.inr rfl) i_kpersons i_kpapers i_kstamps i_ksayings i_kfindings i_kwarnings i_kquestions hP hD hS (lv_sub hl [0, 1, 2, 3] rfl)
set_option maxHeartbeats 8000000 in
set_option maxRecDepth 100000 in
theorem law_18 : LAWC 898 := by
  intro p l e s m below meth c b L xs G K A hf xb bb cc sg do9 ru9 ta9 tp9 ro9 ho9 de9 bpersons bpapers bstamps bversions blines bsteps bsayings bfindings bwarnings bquestions bpersonsc bpapersc bstampsc bversionsc blinesc bstepsc bsayingsc bfindingsc bwarningsc bquestionsc cpersons cpapers cstamps cversions clines csteps csayings cfindings cwarnings cquestions cpersonsc cpapersc cstampsc cversionsc clinesc cstepsc csayingsc cfindingsc cwarningsc cquestionsc tby tln tsp tlnc tspc hs hz hi hw hn ht tr9 clk fi la ml mm sl sm clm hd kc0 km0 kc1 km1 kc2 km2 kc3 km3 kc4 km4 kc5 km5 kc6 km6 kc7 km7 kc8 km8 kc9 km9 kc10 km10 kc11 km11 kc12 km12 fc sh rr tc rrc xm nw nk nt nr nm ns nl nc nF np ntr nb nso nsi nit nsh nsf nss nrc kbpersons kbpapers kbstamps kbversions kblines kbsteps kbsayings kbfindings kbwarnings kbquestions kcpersons kcpapers kcstamps kcversions kclines kcsteps kcsayings kcfindings kcwarnings kcquestions kt ks kn kln ksp jr kr ytp yrm yjr ikp td vd vl gp ktd kvd kvl kgp tkd tf9 dk dn dp da dq cl bo le bi r1 rc rh tf tt9 tl tbv asd st9 tol mroundOf mroundFrom mfromHour mtoHour mfrom mto msort misFault mdeep mcoded mlines mbestCost mdealer mnumber mwhose msize misParted fbpersons fbpapers fbstamps fbversions fblines fbsteps fbsayings fbfindings fbwarnings fbquestions fcpersons fcpapers fcstamps fcversions fclines fcsteps fcsayings fcfindings fcwarnings fcquestions fby ftln ftsp fhw fhn ftr fhs fhz fhi fclm ffi fla fml fmm fsl fsm fk0 fk1 fk2 fk3 fk4 fk5 fk6 fk7 fk8 fk9 fk10 fk11 fk12 ffc fsh frr ftc fht y_nw y_nk y_nt y_nr y_nm y_ns y_nl y_nc y_np y_ntr y_nb y_nso y_nsi y_nit y_nsh y_nsf y_nss y_nrc H locs ls ki hC hK hO hX hL hbl hbA hA hA2 hki hf0 hf1 hf2 hf3 hf4 hf5 hf6 hf7 hf8 hf9 hf10 hf11 hf12 i_kbpersons i_kbpapers i_kbstamps i_kbversions i_kblines i_kbsteps i_kbsayings i_kbfindings i_kbwarnings i_kbquestions i_kcpersons i_kcpapers i_kcstamps i_kcversions i_kclines i_kcsteps i_kcsayings i_kcfindings i_kcwarnings i_kcquestions i_kt i_ks i_kn i_kln i_ksp i_jr i_kr i_ytp i_yrm i_yjr i_tp i_cl i_tol i_ikp i_nw i_vw i_nk i_vk i_mb i_b6 i_sz i_sh i_sl i_sp i_sq i_sc i_sk i_epersons i_epapers i_estamps i_esayings i_efindings i_ewarnings i_equestions i_kpersons i_kpapers i_kstamps i_ksayings i_kfindings i_kwarnings i_kquestions hback hP hD hS hl
  refine Kan8 hC (fun hx hb hr hml hB hown hlocks hnm => ?_)
  refine lv_aload_n hx hb dL_law_898 rfl (lv_at2 hl) ?_
  refine lv_aload_n hx hb dL_law_899 rfl (lv_at3 hl) ?_
  refine lv_iload_n hx hb dL_law_900 rfl (lv_at0 hl) ?_
  refine lv_iconst (v := 1) hx hb dL_law_901 (by decide) ?_
  refine lv_iadd hx hb dL_law_902 ?_
  refine eqi (x1 := nI (ki + 1)) (nI_add ki 1) ?_
  refine va_sld hx hb hX hbl hbA hS (lw_in hL hki (by decide)) dL_law_903 ?_
  refine eqi (x1 := xs (ki + 1)) (congrArg xs (lw_cl hL hki (by decide))) ?_
  refine lv_aload_n hx hb dL_law_904 rfl (lv_at3 hl) ?_
  refine lv_iload_n hx hb dL_law_905 rfl (lv_at0 hl) ?_
  refine lv_iconst (v := 2) hx hb dL_law_906 (by decide) ?_
  refine lv_iadd hx hb dL_law_907 ?_
  refine eqi (x1 := nI (ki + 2)) (nI_add ki 2) ?_
  refine va_sld hx hb hX hbl hbA hS (lw_in hL hki (by decide)) dL_law_908 ?_
  refine eqi (x1 := xs (ki + 2)) (congrArg xs (lw_cl hL hki (by decide))) ?_
  refine lv_aload_n hx hb dL_law_909 rfl (lv_at3 hl) ?_
  refine lv_iload_n hx hb dL_law_910 rfl (lv_at0 hl) ?_
  refine lv_iconst (v := 3) hx hb dL_law_911 (by decide) ?_
  refine lv_iadd hx hb dL_law_912 ?_
  refine eqi (x1 := nI (ki + 3)) (nI_add ki 3) ?_
  refine va_sld hx hb hX hbl hbA hS (lw_in hL hki (by decide)) dL_law_913 ?_
  refine eqi (x1 := xs (ki + 3)) (congrArg xs (lw_cl hL hki (by decide))) ?_
  refine pV hC hK hl hP hD (p_line l G xb (xs (ki + 1)) (xs (ki + 2)) (xs (ki + 3)) bb cc ikp sg do9 ru9 ta9 tp9 ro9 ho9 de9 bpersons bpapers bstamps bversions blines bsteps bsayings bfindings bwarnings bquestions td vd vl gp bversionsc kbversions fbversions blinesc kblines fblines (i_kbversions) (i_kblines)) si_L_95 [0, 1, 8, 9, 10, 11] sm_0_1_8_9_10_11 fm_0_1_8_9_10_11 nd_0_1_8_9_10_11 rfl rfl rfl rfl rfl (Nat.le_of_ble_eq_true rfl) ⟨Nat.le_of_ble_eq_true rfl, Nat.le_of_ble_eq_true rfl⟩ ⟨by first | exact Nat.le_of_ble_eq_true rfl | exact Nat.zero_le _, by first | exact Nat.le_of_ble_eq_true rfl | exact Nat.zero_le _⟩ dL_law_914 (fun r9613 hr9613 => ?_)
  refine lv_pop hx hb dL_law_917 rfl ?_
  refine lv_aload_n hx hb dL_law_918 rfl (lv_at1 hl) ?_
  refine lv_aload_n hx hb dL_law_919 rfl (lv_at3 hl) ?_
  refine lv_iload_n hx hb dL_law_920 rfl (lv_at0 hl) ?_
  refine lv_iconst (v := 1) hx hb dL_law_921 (by decide) ?_
  refine lv_iadd hx hb dL_law_922 ?_
  refine eqi (x1 := nI (ki + 1)) (nI_add ki 1) ?_
  refine va_sld hx hb hX hbl hbA hS (lw_in hL hki (by decide)) dL_law_923 ?_
  refine eqi (x1 := xs (ki + 1)) (congrArg xs (lw_cl hL hki (by decide))) ?_
  refine lv_aload_n hx hb dL_law_924 rfl (lv_at3 hl) ?_
  refine lv_iload_n hx hb dL_law_925 rfl (lv_at0 hl) ?_
  refine lv_iconst (v := 2) hx hb dL_law_926 (by decide) ?_
  refine lv_iadd hx hb dL_law_927 ?_
  refine eqi (x1 := nI (ki + 2)) (nI_add ki 2) ?_
  refine va_sld hx hb hX hbl hbA hS (lw_in hL hki (by decide)) dL_law_928 ?_
  refine eqi (x1 := xs (ki + 2)) (congrArg xs (lw_cl hL hki (by decide))) ?_
  refine lv_aload_n hx hb dL_law_929 rfl (lv_at3 hl) ?_
  refine lv_iload_n hx hb dL_law_930 rfl (lv_at0 hl) ?_
  refine lv_iconst (v := 3) hx hb dL_law_931 (by decide) ?_
  refine lv_iadd hx hb dL_law_932 ?_
  refine eqi (x1 := nI (ki + 3)) (nI_add ki 3) ?_
  refine va_sld hx hb hX hbl hbA hS (lw_in hL hki (by decide)) dL_law_933 ?_
  refine eqi (x1 := xs (ki + 3)) (congrArg xs (lw_cl hL hki (by decide))) ?_
  refine pV hC hK hl hP hD (r_line l G xm (xs (ki + 1)) (xs (ki + 2)) (xs (ki + 3)) nw nk ikp nt (nI ytp) nr (nI yrm) mroundOf mroundFrom 0 nm mfromHour mtoHour ns mfrom mto msort misFault mdeep mcoded mlines nl nc nF np ntr nb mbestCost nso nsi nit nsh nsf nss nrc (nI yjr) mdealer mnumber mwhose msize misParted y_nw (i_nw) (i_vw)) si_L_98 [103, 104] sm_103_104 fm_103_104 nd_103_104 rfl rfl rfl rfl rfl (Nat.le_of_ble_eq_true rfl) ⟨Nat.le_of_ble_eq_true rfl, Nat.le_of_ble_eq_true rfl⟩ ⟨by first | exact Nat.le_of_ble_eq_true rfl | exact Nat.zero_le _, by first | exact Nat.le_of_ble_eq_true rfl | exact Nat.zero_le _⟩ dL_law_934 (fun r9614 hr9614 => ?_)
  refine lv_pop hx hb dL_law_937 rfl ?_
  refine lv_goto (tgt := 1718) hx hb dL_law_938 (by decide) ?_
  exact hback kbpersons kbpapers kbstamps kbversions kblines kbsteps kbsayings kbfindings kbwarnings kbquestions kcpersons kcpapers kcstamps kcversions kclines kcsteps kcsayings kcfindings kcwarnings kcquestions kt ks kn kln ksp jr kr ytp yrm yjr ikp td vd vl gp ktd kvd kvl kgp tkd tf9 dk dn dp da dq cl bo le bi r1 rc rh tf tt9 tl tbv asd st9 tol mroundOf mroundFrom mfromHour mtoHour mfrom mto msort misFault mdeep mcoded mlines mbestCost mdealer mnumber mwhose msize misParted fbpersons fbpapers fbstamps fbversions fblines fbsteps fbsayings fbfindings fbwarnings fbquestions fcpersons fcpapers fcstamps fcversions fclines fcsteps fcsayings fcfindings fcwarnings fcquestions fby ftln ftsp fhw fhn ftr fhs fhz fhi fclm ffi fla fml fmm fsl fsm fk0 fk1 fk2 fk3 fk4 fk5 fk6 fk7 fk8 fk9 fk10 fk11 fk12 ffc fsh frr ftc fht y_nw y_nk y_nt y_nr y_nm y_ns y_nl y_nc y_np y_ntr y_nb y_nso y_nsi y_nit y_nsh y_nsf y_nss y_nrc H locs ls i_kbpersons i_kbpapers i_kbstamps i_kbversions i_kblines i_kbsteps i_kbsayings i_kbfindings i_kbwarnings i_kbquestions i_kcpersons i_kcpapers i_kcstamps i_kcversions i_kclines i_kcsteps i_kcsayings i_kcfindings i_kcwarnings i_kcquestions i_kt i_ks i_kn i_kln i_ksp i_jr i_kr i_ytp i_yrm i_yjr i_tp i_cl i_tol i_ikp i_nw i_vw i_nk i_vk i_mb i_b6 i_sz i_sh i_sl i_sp i_sq i_sc i_sk i_epersons i_epapers i_estamps i_esayings i_efindings i_ewarnings i_equestions i_kpersons i_kpapers i_kstamps i_ksayings i_kfindings i_kwarnings i_kquestions hP hD hS (lv_sub hl [0, 1, 2, 3] rfl)
set_option maxHeartbeats 8000000 in
set_option maxRecDepth 100000 in
theorem law_19 : LAWC 941 := by
  intro p l e s m below meth c b L xs G K A hf xb bb cc sg do9 ru9 ta9 tp9 ro9 ho9 de9 bpersons bpapers bstamps bversions blines bsteps bsayings bfindings bwarnings bquestions bpersonsc bpapersc bstampsc bversionsc blinesc bstepsc bsayingsc bfindingsc bwarningsc bquestionsc cpersons cpapers cstamps cversions clines csteps csayings cfindings cwarnings cquestions cpersonsc cpapersc cstampsc cversionsc clinesc cstepsc csayingsc cfindingsc cwarningsc cquestionsc tby tln tsp tlnc tspc hs hz hi hw hn ht tr9 clk fi la ml mm sl sm clm hd kc0 km0 kc1 km1 kc2 km2 kc3 km3 kc4 km4 kc5 km5 kc6 km6 kc7 km7 kc8 km8 kc9 km9 kc10 km10 kc11 km11 kc12 km12 fc sh rr tc rrc xm nw nk nt nr nm ns nl nc nF np ntr nb nso nsi nit nsh nsf nss nrc kbpersons kbpapers kbstamps kbversions kblines kbsteps kbsayings kbfindings kbwarnings kbquestions kcpersons kcpapers kcstamps kcversions kclines kcsteps kcsayings kcfindings kcwarnings kcquestions kt ks kn kln ksp jr kr ytp yrm yjr ikp td vd vl gp ktd kvd kvl kgp tkd tf9 dk dn dp da dq cl bo le bi r1 rc rh tf tt9 tl tbv asd st9 tol mroundOf mroundFrom mfromHour mtoHour mfrom mto msort misFault mdeep mcoded mlines mbestCost mdealer mnumber mwhose msize misParted fbpersons fbpapers fbstamps fbversions fblines fbsteps fbsayings fbfindings fbwarnings fbquestions fcpersons fcpapers fcstamps fcversions fclines fcsteps fcsayings fcfindings fcwarnings fcquestions fby ftln ftsp fhw fhn ftr fhs fhz fhi fclm ffi fla fml fmm fsl fsm fk0 fk1 fk2 fk3 fk4 fk5 fk6 fk7 fk8 fk9 fk10 fk11 fk12 ffc fsh frr ftc fht y_nw y_nk y_nt y_nr y_nm y_ns y_nl y_nc y_np y_ntr y_nb y_nso y_nsi y_nit y_nsh y_nsf y_nss y_nrc H locs ls ki hC hK hO hX hL hbl hbA hA hA2 hki hf0 hf1 hf2 hf3 hf4 hf5 hf6 hf7 hf8 hf9 hf10 hf11 hf12 i_kbpersons i_kbpapers i_kbstamps i_kbversions i_kblines i_kbsteps i_kbsayings i_kbfindings i_kbwarnings i_kbquestions i_kcpersons i_kcpapers i_kcstamps i_kcversions i_kclines i_kcsteps i_kcsayings i_kcfindings i_kcwarnings i_kcquestions i_kt i_ks i_kn i_kln i_ksp i_jr i_kr i_ytp i_yrm i_yjr i_tp i_cl i_tol i_ikp i_nw i_vw i_nk i_vk i_mb i_b6 i_sz i_sh i_sl i_sp i_sq i_sc i_sk i_epersons i_epapers i_estamps i_esayings i_efindings i_ewarnings i_equestions i_kpersons i_kpapers i_kstamps i_ksayings i_kfindings i_kwarnings i_kquestions hback hP hD hS hl
  refine Kan8 hC (fun hx hb hr hml hB hown hlocks hnm => ?_)
  refine lv_aload_n hx hb dL_law_941 rfl (lv_at2 hl) ?_
  refine lv_aload_n hx hb dL_law_942 rfl (lv_at3 hl) ?_
  refine lv_iload_n hx hb dL_law_943 rfl (lv_at0 hl) ?_
  refine lv_iconst (v := 1) hx hb dL_law_944 (by decide) ?_
  refine lv_iadd hx hb dL_law_945 ?_
  refine eqi (x1 := nI (ki + 1)) (nI_add ki 1) ?_
  refine va_sld hx hb hX hbl hbA hS (lw_in hL hki (by decide)) dL_law_946 ?_
  refine eqi (x1 := xs (ki + 1)) (congrArg xs (lw_cl hL hki (by decide))) ?_
  refine lv_aload_n hx hb dL_law_947 rfl (lv_at3 hl) ?_
  refine lv_iload_n hx hb dL_law_948 rfl (lv_at0 hl) ?_
  refine lv_iconst (v := 2) hx hb dL_law_949 (by decide) ?_
  refine lv_iadd hx hb dL_law_950 ?_
  refine eqi (x1 := nI (ki + 2)) (nI_add ki 2) ?_
  refine va_sld hx hb hX hbl hbA hS (lw_in hL hki (by decide)) dL_law_951 ?_
  refine eqi (x1 := xs (ki + 2)) (congrArg xs (lw_cl hL hki (by decide))) ?_
  refine lk_iV hC hK hl hP hD hS hA (p_why l G xb (xs (ki + 1)) (xs (ki + 2)) bb cc ikp sg do9 ru9 ta9 tp9 ro9 ho9 de9 clk fi la ml mm sl sm cl clm fclm ffi fla fml fmm fsl fsm fc sh r1 rc rh ffc fsh bpersons bpapers bstamps bversions blines bsteps bsayings bfindings bwarnings bquestions td vd vl gp bversionsc kbversions fbversions bpersonsc kbpersons fbpersons bpapersc kbpapers fbpapers blinesc kblines fblines bstepsc kbsteps fbsteps bstampsc kbstamps fbstamps (i_kbversions) (i_kbpersons) (i_kbpapers) (i_kblines) (i_kbsteps) (i_kbstamps) (i_cl)) si_L_99 [0, 57, 58, 59, 60, 61, 62, 63, 64, 65, 94, 95, 96, 1, 8, 9, 2, 3, 4, 5, 10, 11, 12, 13, 6, 7] [0, 13, 16, 17, 18, 19, 24, 25, 14, 15, 20, 21, 22, 23, 1, 2, 3, 4, 5, 6, 7, 8, 9, 10, 11, 12] [true, true, true, true, true, true, true, true, true, true, true, true, true, true, false, false, false, false, false, false, false, false, false, false, false, false, false, false, false, false, false, false, false, false, false, false, false, false, false, false, false, false, false, false, false, false, false, false, false, false, false, false, false, false, false, false, false, true, true, true, true, true, true, true, true, true, false, false, false, false, false, false, false, false, false, false, false, false, false, false, false, false, false, false, false, false, false, false, false, false, false, false, false, false, true, true, true, false, false, false, false, false, false, false, false, false, false, false, false, false, false, false, false, false, false, false, false, false, false, false, false, false, false] rfl rfl (by decide +kernel) (by decide +kernel) rfl rfl rfl rfl rfl (Nat.le_of_ble_eq_true rfl) ⟨Nat.le_of_ble_eq_true rfl, Nat.le_of_ble_eq_true rfl⟩ ⟨by first | exact Nat.le_of_ble_eq_true rfl | omega, by first | exact Nat.le_of_ble_eq_true rfl | omega⟩ dL_law_952 (fun r9615 => Ktu13 fun cl19617 gclm9618 gfi9619 gla9620 gml9621 gmm9622 gsl9623 gsm9624 r119625 rc19626 rh19627 gfc9628 gsh9629 => ?_)
  intro H locs hr9615 hP2 hS
  try dsimp only at hr9615
  refine Kpdr (ws := (WLW G K hf xb bb cc sg do9 ru9 ta9 tp9 ro9 ho9 de9 bpersons bpapers bstamps bversions blines bsteps bsayings bfindings bwarnings bquestions bpersonsc bpapersc bstampsc bversionsc blinesc bstepsc bsayingsc bfindingsc bwarningsc bquestionsc cpersons cpapers cstamps cversions clines csteps csayings cfindings cwarnings cquestions cpersonsc cpapersc cstampsc cversionsc clinesc cstepsc csayingsc cfindingsc cwarningsc cquestionsc tby tln tsp tlnc tspc hs hz hi hw hn ht tr9 clk fi la ml mm sl sm clm hd kc0 km0 kc1 km1 kc2 km2 kc3 km3 kc4 km4 kc5 km5 kc6 km6 kc7 km7 kc8 km8 kc9 km9 kc10 km10 kc11 km11 kc12 km12 fc sh rr tc rrc xm nw nk nt nr nm ns nl nc nF np ntr nb nso nsi nit nsh nsf nss nrc kbpersons kbpapers kbstamps kbversions kblines kbsteps kbsayings kbfindings kbwarnings kbquestions kcpersons kcpapers kcstamps kcversions kclines kcsteps kcsayings kcfindings kcwarnings kcquestions kt ks kn kln ksp jr kr ytp yrm yjr ikp td vd vl gp ktd kvd kvl kgp tkd tf9 dk dn dp da dq cl19617 bo le bi r119625 rc19626 rh19627 tf tt9 tl tbv asd st9 tol mroundOf mroundFrom mfromHour mtoHour mfrom mto msort misFault mdeep mcoded mlines mbestCost mdealer mnumber mwhose msize misParted fbpersons fbpapers fbstamps fbversions fblines fbsteps fbsayings fbfindings fbwarnings fbquestions fcpersons fcpapers fcstamps fcversions fclines fcsteps fcsayings fcfindings fcwarnings fcquestions fby ftln ftsp fhw fhn ftr fhs fhz fhi gclm9618 gfi9619 gla9620 gml9621 gmm9622 gsl9623 gsm9624 fk0 fk1 fk2 fk3 fk4 fk5 fk6 fk7 fk8 fk9 fk10 fk11 fk12 gfc9628 gsh9629 frr ftc fht y_nw y_nk y_nt y_nr y_nm y_ns y_nl y_nc y_np y_ntr y_nb y_nso y_nsi y_nit y_nsh y_nsf y_nss y_nrc)) hP2 (lk_D hD rfl) (fun hP hD => ?_)
  obtain ⟨hr9615, w9630⟩ := hr9615
  refine lv_pop hx hb dL_law_955 rfl ?_
  refine lv_aload_n hx hb dL_law_956 rfl (lv_at1 hl) ?_
  refine lv_aload_n hx hb dL_law_957 rfl (lv_at3 hl) ?_
  refine lv_iload_n hx hb dL_law_958 rfl (lv_at0 hl) ?_
  refine lv_iconst (v := 1) hx hb dL_law_959 (by decide) ?_
  refine lv_iadd hx hb dL_law_960 ?_
  refine eqi (x1 := nI (ki + 1)) (nI_add ki 1) ?_
  refine va_sld hx hb hX hbl hbA hS (lw_in hL hki (by decide)) dL_law_961 ?_
  refine eqi (x1 := xs (ki + 1)) (congrArg xs (lw_cl hL hki (by decide))) ?_
  refine lv_aload_n hx hb dL_law_962 rfl (lv_at3 hl) ?_
  refine lv_iload_n hx hb dL_law_963 rfl (lv_at0 hl) ?_
  refine lv_iconst (v := 2) hx hb dL_law_964 (by decide) ?_
  refine lv_iadd hx hb dL_law_965 ?_
  refine eqi (x1 := nI (ki + 2)) (nI_add ki 2) ?_
  refine va_sld hx hb hX hbl hbA hS (lw_in hL hki (by decide)) dL_law_966 ?_
  refine eqi (x1 := xs (ki + 2)) (congrArg xs (lw_cl hL hki (by decide))) ?_
  refine lk_iV hC hK hl hP hD hS hA (r_why l G xm (xs (ki + 1)) (xs (ki + 2)) nw nk ikp nt (nI ytp) nr (nI yrm) mroundOf mroundFrom nm mfromHour mtoHour ns mfrom mto msort misFault mdeep mcoded mlines nl nc nF np ntr nb mbestCost nso nsi nit nsh nsf nss nrc (nI yjr) mdealer mnumber mwhose msize misParted y_nw y_nm y_ns y_np (i_nw) (i_vw) (i_mb)) si_L_102 [103, 104, 108, 109, 112] [0, 1, 2, 3, 4] [false, false, false, false, false, false, false, false, false, false, false, false, false, false, false, false, false, false, false, false, false, false, false, false, false, false, false, false, false, false, false, false, false, false, false, false, false, false, false, false, false, false, false, false, false, false, false, false, false, false, false, false, false, false, false, false, false, false, false, false, false, false, false, false, false, false, false, false, false, false, false, false, false, false, false, false, false, false, false, false, false, false, false, false, false, false, false, false, false, false, false, false, false, false, false, false, false, false, false, false, false, false, false, true, true, false, false, false, true, true, false, false, true, false, false, false, false, false, false, false, false, false, false] rfl rfl (by decide +kernel) (by decide +kernel) rfl rfl rfl rfl rfl (Nat.le_of_ble_eq_true rfl) ⟨Nat.le_of_ble_eq_true rfl, Nat.le_of_ble_eq_true rfl⟩ ⟨by first | exact Nat.le_of_ble_eq_true rfl | omega, by first | exact Nat.le_of_ble_eq_true rfl | omega⟩ dL_law_967 (fun r9631 => Ktu5 fun fh19633 th19634 gnm9635 gns9636 gnp9637 => ?_)
  intro H locs hr9631 hP2 hS
  try dsimp only at hr9631
  refine Kpdr (ws := (WLW G K hf xb bb cc sg do9 ru9 ta9 tp9 ro9 ho9 de9 bpersons bpapers bstamps bversions blines bsteps bsayings bfindings bwarnings bquestions bpersonsc bpapersc bstampsc bversionsc blinesc bstepsc bsayingsc bfindingsc bwarningsc bquestionsc cpersons cpapers cstamps cversions clines csteps csayings cfindings cwarnings cquestions cpersonsc cpapersc cstampsc cversionsc clinesc cstepsc csayingsc cfindingsc cwarningsc cquestionsc tby tln tsp tlnc tspc hs hz hi hw hn ht tr9 clk fi la ml mm sl sm clm hd kc0 km0 kc1 km1 kc2 km2 kc3 km3 kc4 km4 kc5 km5 kc6 km6 kc7 km7 kc8 km8 kc9 km9 kc10 km10 kc11 km11 kc12 km12 fc sh rr tc rrc xm nw nk nt nr nm ns nl nc nF np ntr nb nso nsi nit nsh nsf nss nrc kbpersons kbpapers kbstamps kbversions kblines kbsteps kbsayings kbfindings kbwarnings kbquestions kcpersons kcpapers kcstamps kcversions kclines kcsteps kcsayings kcfindings kcwarnings kcquestions kt ks kn kln ksp jr kr ytp yrm yjr ikp td vd vl gp ktd kvd kvl kgp tkd tf9 dk dn dp da dq cl19617 bo le bi r119625 rc19626 rh19627 tf tt9 tl tbv asd st9 tol mroundOf mroundFrom fh19633 th19634 mfrom mto msort misFault mdeep mcoded mlines mbestCost mdealer mnumber mwhose msize misParted fbpersons fbpapers fbstamps fbversions fblines fbsteps fbsayings fbfindings fbwarnings fbquestions fcpersons fcpapers fcstamps fcversions fclines fcsteps fcsayings fcfindings fcwarnings fcquestions fby ftln ftsp fhw fhn ftr fhs fhz fhi gclm9618 gfi9619 gla9620 gml9621 gmm9622 gsl9623 gsm9624 fk0 fk1 fk2 fk3 fk4 fk5 fk6 fk7 fk8 fk9 fk10 fk11 fk12 gfc9628 gsh9629 frr ftc fht y_nw y_nk y_nt y_nr gnm9635 gns9636 y_nl y_nc gnp9637 y_ntr y_nb y_nso y_nsi y_nit y_nsh y_nsf y_nss y_nrc)) hP2 (lk_D hD rfl) (fun hP hD => ?_)
  obtain ⟨hr9631, w9638⟩ := hr9631
  refine lv_pop hx hb dL_law_970 rfl ?_
  refine lv_goto (tgt := 1718) hx hb dL_law_971 (by decide) ?_
  exact hback kbpersons kbpapers kbstamps kbversions kblines kbsteps kbsayings kbfindings kbwarnings kbquestions kcpersons kcpapers kcstamps kcversions kclines kcsteps kcsayings kcfindings kcwarnings kcquestions kt ks kn kln ksp jr kr ytp yrm yjr ikp td vd vl gp ktd kvd kvl kgp tkd tf9 dk dn dp da dq cl19617 bo le bi r119625 rc19626 rh19627 tf tt9 tl tbv asd st9 tol mroundOf mroundFrom fh19633 th19634 mfrom mto msort misFault mdeep mcoded mlines mbestCost mdealer mnumber mwhose msize misParted fbpersons fbpapers fbstamps fbversions fblines fbsteps fbsayings fbfindings fbwarnings fbquestions fcpersons fcpapers fcstamps fcversions fclines fcsteps fcsayings fcfindings fcwarnings fcquestions fby ftln ftsp fhw fhn ftr fhs fhz fhi gclm9618 gfi9619 gla9620 gml9621 gmm9622 gsl9623 gsm9624 fk0 fk1 fk2 fk3 fk4 fk5 fk6 fk7 fk8 fk9 fk10 fk11 fk12 gfc9628 gsh9629 frr ftc fht y_nw y_nk y_nt y_nr gnm9635 gns9636 y_nl y_nc gnp9637 y_ntr y_nb y_nso y_nsi y_nit y_nsh y_nsf y_nss y_nrc H locs ls i_kbpersons i_kbpapers i_kbstamps i_kbversions i_kblines i_kbsteps i_kbsayings i_kbfindings i_kbwarnings i_kbquestions i_kcpersons i_kcpapers i_kcstamps i_kcversions i_kclines i_kcsteps i_kcsayings i_kcfindings i_kcwarnings i_kcquestions i_kt i_ks i_kn i_kln i_ksp i_jr i_kr i_ytp i_yrm i_yjr i_tp (by first | assumption | omega | exact Or.inl rfl | exact Or.inr rfl) i_tol i_ikp i_nw i_vw i_nk i_vk (by first | assumption | omega | exact Or.inl rfl | exact Or.inr rfl) i_b6 i_sz i_sh i_sl i_sp i_sq i_sc i_sk i_epersons i_epapers i_estamps i_esayings i_efindings i_ewarnings i_equestions i_kpersons i_kpapers i_kstamps i_ksayings i_kfindings i_kwarnings i_kquestions hP hD hS (lv_sub hl [0, 1, 2, 3] rfl)
