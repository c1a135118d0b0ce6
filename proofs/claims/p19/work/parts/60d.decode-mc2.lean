/-! decode rows -/
theorem dX12_init_535 : decode cX12_init 535 = .ok (.bipush 101, 2) := by decide +kernel
theorem dX12_init_537 : decode cX12_init 537 = .ok (.iastore, 1) := by decide +kernel
theorem dX12_init_538 : decode cX12_init 538 = .ok (.dup, 1) := by decide +kernel
theorem dX12_init_539 : decode cX12_init 539 = .ok (.bipush 89, 2) := by decide +kernel
theorem dX12_init_541 : decode cX12_init 541 = .ok (.bipush 32, 2) := by decide +kernel
theorem dX12_init_543 : decode cX12_init 543 = .ok (.iastore, 1) := by decide +kernel
theorem dX12_init_544 : decode cX12_init 544 = .ok (.dup, 1) := by decide +kernel
theorem dX12_init_545 : decode cX12_init 545 = .ok (.bipush 90, 2) := by decide +kernel
theorem dX12_init_547 : decode cX12_init 547 = .ok (.bipush 114, 2) := by decide +kernel
theorem dX12_init_549 : decode cX12_init 549 = .ok (.iastore, 1) := by decide +kernel
theorem dX12_init_550 : decode cX12_init 550 = .ok (.dup, 1) := by decide +kernel
theorem dX12_init_551 : decode cX12_init 551 = .ok (.bipush 91, 2) := by decide +kernel
theorem dX12_init_553 : decode cX12_init 553 = .ok (.bipush 101, 2) := by decide +kernel
theorem dX12_init_555 : decode cX12_init 555 = .ok (.iastore, 1) := by decide +kernel
theorem dX12_init_556 : decode cX12_init 556 = .ok (.dup, 1) := by decide +kernel
theorem dX12_init_557 : decode cX12_init 557 = .ok (.bipush 92, 2) := by decide +kernel
theorem dX12_init_559 : decode cX12_init 559 = .ok (.bipush 116, 2) := by decide +kernel
theorem dX12_init_561 : decode cX12_init 561 = .ok (.iastore, 1) := by decide +kernel
theorem dX12_init_562 : decode cX12_init 562 = .ok (.dup, 1) := by decide +kernel
theorem dX12_init_563 : decode cX12_init 563 = .ok (.bipush 93, 2) := by decide +kernel
theorem dX12_init_565 : decode cX12_init 565 = .ok (.bipush 117, 2) := by decide +kernel
theorem dX12_init_567 : decode cX12_init 567 = .ok (.iastore, 1) := by decide +kernel
theorem dX12_init_568 : decode cX12_init 568 = .ok (.dup, 1) := by decide +kernel
theorem dX12_init_569 : decode cX12_init 569 = .ok (.bipush 94, 2) := by decide +kernel
theorem dX12_init_571 : decode cX12_init 571 = .ok (.bipush 114, 2) := by decide +kernel
theorem dX12_init_573 : decode cX12_init 573 = .ok (.iastore, 1) := by decide +kernel
theorem dX12_init_574 : decode cX12_init 574 = .ok (.dup, 1) := by decide +kernel
theorem dX12_init_575 : decode cX12_init 575 = .ok (.bipush 95, 2) := by decide +kernel
theorem dX12_init_577 : decode cX12_init 577 = .ok (.bipush 110, 2) := by decide +kernel
theorem dX12_init_579 : decode cX12_init 579 = .ok (.iastore, 1) := by decide +kernel
theorem dX12_init_580 : decode cX12_init 580 = .ok (.dup, 1) := by decide +kernel
theorem dX12_init_581 : decode cX12_init 581 = .ok (.bipush 96, 2) := by decide +kernel
theorem dX12_init_583 : decode cX12_init 583 = .ok (.bipush 32, 2) := by decide +kernel
theorem dX12_init_585 : decode cX12_init 585 = .ok (.iastore, 1) := by decide +kernel
theorem dX12_init_586 : decode cX12_init 586 = .ok (.dup, 1) := by decide +kernel
theorem dX12_init_587 : decode cX12_init 587 = .ok (.bipush 97, 2) := by decide +kernel
theorem dX12_init_589 : decode cX12_init 589 = .ok (.bipush 112, 2) := by decide +kernel
theorem dX12_init_591 : decode cX12_init 591 = .ok (.iastore, 1) := by decide +kernel
theorem dX12_init_592 : decode cX12_init 592 = .ok (.dup, 1) := by decide +kernel
theorem dX12_init_593 : decode cX12_init 593 = .ok (.bipush 98, 2) := by decide +kernel
theorem dX12_init_595 : decode cX12_init 595 = .ok (.bipush 114, 2) := by decide +kernel
theorem dX12_init_597 : decode cX12_init 597 = .ok (.iastore, 1) := by decide +kernel
theorem dX12_init_598 : decode cX12_init 598 = .ok (.dup, 1) := by decide +kernel
theorem dX12_init_599 : decode cX12_init 599 = .ok (.bipush 99, 2) := by decide +kernel
theorem dX12_init_601 : decode cX12_init 601 = .ok (.bipush 105, 2) := by decide +kernel
theorem dX12_init_603 : decode cX12_init 603 = .ok (.iastore, 1) := by decide +kernel
theorem dX12_init_604 : decode cX12_init 604 = .ok (.dup, 1) := by decide +kernel
theorem dX12_init_605 : decode cX12_init 605 = .ok (.bipush 100, 2) := by decide +kernel
theorem dX12_init_607 : decode cX12_init 607 = .ok (.bipush 110, 2) := by decide +kernel
theorem dX12_init_609 : decode cX12_init 609 = .ok (.iastore, 1) := by decide +kernel
theorem dX12_init_610 : decode cX12_init 610 = .ok (.dup, 1) := by decide +kernel
theorem dX12_init_611 : decode cX12_init 611 = .ok (.bipush 101, 2) := by decide +kernel
theorem dX12_init_613 : decode cX12_init 613 = .ok (.bipush 116, 2) := by decide +kernel
theorem dX12_init_615 : decode cX12_init 615 = .ok (.iastore, 1) := by decide +kernel
theorem dX12_init_616 : decode cX12_init 616 = .ok (.dup, 1) := by decide +kernel
theorem dX12_init_617 : decode cX12_init 617 = .ok (.bipush 102, 2) := by decide +kernel
theorem dX12_init_619 : decode cX12_init 619 = .ok (.bipush 32, 2) := by decide +kernel
theorem dX12_init_621 : decode cX12_init 621 = .ok (.iastore, 1) := by decide +kernel
theorem dX12_init_622 : decode cX12_init 622 = .ok (.dup, 1) := by decide +kernel
theorem dX12_init_623 : decode cX12_init 623 = .ok (.bipush 103, 2) := by decide +kernel
theorem dX12_init_625 : decode cX12_init 625 = .ok (.bipush 97, 2) := by decide +kernel
theorem dX12_init_627 : decode cX12_init 627 = .ok (.iastore, 1) := by decide +kernel
theorem dX12_init_628 : decode cX12_init 628 = .ok (.dup, 1) := by decide +kernel
theorem dX12_init_629 : decode cX12_init 629 = .ok (.bipush 104, 2) := by decide +kernel
theorem dX12_init_631 : decode cX12_init 631 = .ok (.bipush 115, 2) := by decide +kernel
theorem dX12_init_633 : decode cX12_init 633 = .ok (.iastore, 1) := by decide +kernel
theorem dX12_init_634 : decode cX12_init 634 = .ok (.dup, 1) := by decide +kernel
theorem dX12_init_635 : decode cX12_init 635 = .ok (.bipush 105, 2) := by decide +kernel
theorem dX12_init_637 : decode cX12_init 637 = .ok (.bipush 115, 2) := by decide +kernel
theorem dX12_init_639 : decode cX12_init 639 = .ok (.iastore, 1) := by decide +kernel
theorem dX12_init_640 : decode cX12_init 640 = .ok (.dup, 1) := by decide +kernel
theorem dX12_init_641 : decode cX12_init 641 = .ok (.bipush 106, 2) := by decide +kernel
theorem dX12_init_643 : decode cX12_init 643 = .ok (.bipush 101, 2) := by decide +kernel
theorem dX12_init_645 : decode cX12_init 645 = .ok (.iastore, 1) := by decide +kernel
theorem dX12_init_646 : decode cX12_init 646 = .ok (.dup, 1) := by decide +kernel
theorem dX12_init_647 : decode cX12_init 647 = .ok (.bipush 107, 2) := by decide +kernel
theorem dX12_init_649 : decode cX12_init 649 = .ok (.bipush 114, 2) := by decide +kernel
theorem dX12_init_651 : decode cX12_init 651 = .ok (.iastore, 1) := by decide +kernel
theorem dX12_init_652 : decode cX12_init 652 = .ok (.dup, 1) := by decide +kernel
theorem dX12_init_653 : decode cX12_init 653 = .ok (.bipush 108, 2) := by decide +kernel
theorem dX12_init_655 : decode cX12_init 655 = .ok (.bipush 116, 2) := by decide +kernel
theorem dX12_init_657 : decode cX12_init 657 = .ok (.iastore, 1) := by decide +kernel
theorem dX12_init_658 : decode cX12_init 658 = .ok (.dup, 1) := by decide +kernel
theorem dX12_init_659 : decode cX12_init 659 = .ok (.bipush 109, 2) := by decide +kernel
theorem dX12_init_661 : decode cX12_init 661 = .ok (.bipush 32, 2) := by decide +kernel
theorem dX12_init_663 : decode cX12_init 663 = .ok (.iastore, 1) := by decide +kernel
theorem dX12_init_664 : decode cX12_init 664 = .ok (.dup, 1) := by decide +kernel
theorem dX12_init_665 : decode cX12_init 665 = .ok (.bipush 110, 2) := by decide +kernel
theorem dX12_init_667 : decode cX12_init 667 = .ok (.bipush 115, 2) := by decide +kernel
theorem dX12_init_669 : decode cX12_init 669 = .ok (.iastore, 1) := by decide +kernel
theorem dX12_init_670 : decode cX12_init 670 = .ok (.dup, 1) := by decide +kernel
theorem dX12_init_671 : decode cX12_init 671 = .ok (.bipush 111, 2) := by decide +kernel
theorem dX12_init_673 : decode cX12_init 673 = .ok (.bipush 116, 2) := by decide +kernel
theorem dX12_init_675 : decode cX12_init 675 = .ok (.iastore, 1) := by decide +kernel
theorem dX12_init_676 : decode cX12_init 676 = .ok (.dup, 1) := by decide +kernel
theorem dX12_init_677 : decode cX12_init 677 = .ok (.bipush 112, 2) := by decide +kernel
theorem dX12_init_679 : decode cX12_init 679 = .ok (.bipush 111, 2) := by decide +kernel
theorem dX12_init_681 : decode cX12_init 681 = .ok (.iastore, 1) := by decide +kernel
theorem dX12_init_682 : decode cX12_init 682 = .ok (.dup, 1) := by decide +kernel
theorem dX12_init_683 : decode cX12_init 683 = .ok (.bipush 113, 2) := by decide +kernel
theorem dX12_init_685 : decode cX12_init 685 = .ok (.bipush 112, 2) := by decide +kernel
theorem dX12_init_687 : decode cX12_init 687 = .ok (.iastore, 1) := by decide +kernel
theorem dX12_init_688 : decode cX12_init 688 = .ok (.dup, 1) := by decide +kernel
theorem dX12_init_689 : decode cX12_init 689 = .ok (.bipush 114, 2) := by decide +kernel
theorem dX12_init_691 : decode cX12_init 691 = .ok (.bipush 32, 2) := by decide +kernel
theorem dX12_init_693 : decode cX12_init 693 = .ok (.iastore, 1) := by decide +kernel
theorem dX12_init_694 : decode cX12_init 694 = .ok (.dup, 1) := by decide +kernel
theorem dX12_init_695 : decode cX12_init 695 = .ok (.bipush 115, 2) := by decide +kernel
theorem dX12_init_697 : decode cX12_init 697 = .ok (.bipush 115, 2) := by decide +kernel
theorem dX12_init_699 : decode cX12_init 699 = .ok (.iastore, 1) := by decide +kernel
theorem dX12_init_700 : decode cX12_init 700 = .ok (.dup, 1) := by decide +kernel
theorem dX12_init_701 : decode cX12_init 701 = .ok (.bipush 116, 2) := by decide +kernel
theorem dX12_init_703 : decode cX12_init 703 = .ok (.bipush 117, 2) := by decide +kernel
theorem dX12_init_705 : decode cX12_init 705 = .ok (.iastore, 1) := by decide +kernel
theorem dX12_init_706 : decode cX12_init 706 = .ok (.dup, 1) := by decide +kernel
theorem dX12_init_707 : decode cX12_init 707 = .ok (.bipush 117, 2) := by decide +kernel
theorem dX12_init_709 : decode cX12_init 709 = .ok (.bipush 99, 2) := by decide +kernel
theorem dX12_init_711 : decode cX12_init 711 = .ok (.iastore, 1) := by decide +kernel
theorem dX12_init_712 : decode cX12_init 712 = .ok (.dup, 1) := by decide +kernel
theorem dX12_init_713 : decode cX12_init 713 = .ok (.bipush 118, 2) := by decide +kernel
theorem dX12_init_715 : decode cX12_init 715 = .ok (.bipush 99, 2) := by decide +kernel
theorem dX12_init_717 : decode cX12_init 717 = .ok (.iastore, 1) := by decide +kernel
theorem dX12_init_718 : decode cX12_init 718 = .ok (.dup, 1) := by decide +kernel
theorem dX12_init_719 : decode cX12_init 719 = .ok (.bipush 119, 2) := by decide +kernel
theorem dX12_init_721 : decode cX12_init 721 = .ok (.bipush 101, 2) := by decide +kernel
theorem dX12_init_723 : decode cX12_init 723 = .ok (.iastore, 1) := by decide +kernel
theorem dX12_init_724 : decode cX12_init 724 = .ok (.dup, 1) := by decide +kernel
theorem dX12_init_725 : decode cX12_init 725 = .ok (.bipush 120, 2) := by decide +kernel
theorem dX12_init_727 : decode cX12_init 727 = .ok (.bipush 101, 2) := by decide +kernel
theorem dX12_init_729 : decode cX12_init 729 = .ok (.iastore, 1) := by decide +kernel
theorem dX12_init_730 : decode cX12_init 730 = .ok (.dup, 1) := by decide +kernel
theorem dX12_init_731 : decode cX12_init 731 = .ok (.bipush 121, 2) := by decide +kernel
theorem dX12_init_733 : decode cX12_init 733 = .ok (.bipush 100, 2) := by decide +kernel
theorem dX12_init_735 : decode cX12_init 735 = .ok (.iastore, 1) := by decide +kernel
theorem dX12_init_736 : decode cX12_init 736 = .ok (.dup, 1) := by decide +kernel
theorem dX12_init_737 : decode cX12_init 737 = .ok (.bipush 122, 2) := by decide +kernel
theorem dX12_init_739 : decode cX12_init 739 = .ok (.bipush 32, 2) := by decide +kernel
theorem dX12_init_741 : decode cX12_init 741 = .ok (.iastore, 1) := by decide +kernel
theorem dX12_init_742 : decode cX12_init 742 = .ok (.dup, 1) := by decide +kernel
theorem dX12_init_743 : decode cX12_init 743 = .ok (.bipush 123, 2) := by decide +kernel
theorem dX12_init_745 : decode cX12_init 745 = .ok (.bipush 102, 2) := by decide +kernel
theorem dX12_init_747 : decode cX12_init 747 = .ok (.iastore, 1) := by decide +kernel
theorem dX12_init_748 : decode cX12_init 748 = .ok (.dup, 1) := by decide +kernel
theorem dX12_init_749 : decode cX12_init 749 = .ok (.bipush 124, 2) := by decide +kernel
theorem dX12_init_751 : decode cX12_init 751 = .ok (.bipush 97, 2) := by decide +kernel
theorem dX12_init_753 : decode cX12_init 753 = .ok (.iastore, 1) := by decide +kernel
theorem dX12_init_754 : decode cX12_init 754 = .ok (.dup, 1) := by decide +kernel
theorem dX12_init_755 : decode cX12_init 755 = .ok (.bipush 125, 2) := by decide +kernel
theorem dX12_init_757 : decode cX12_init 757 = .ok (.bipush 105, 2) := by decide +kernel
theorem dX12_init_759 : decode cX12_init 759 = .ok (.iastore, 1) := by decide +kernel
theorem dX12_init_760 : decode cX12_init 760 = .ok (.dup, 1) := by decide +kernel
theorem dX12_init_761 : decode cX12_init 761 = .ok (.bipush 126, 2) := by decide +kernel
theorem dX12_init_763 : decode cX12_init 763 = .ok (.bipush 108, 2) := by decide +kernel
theorem dX12_init_765 : decode cX12_init 765 = .ok (.iastore, 1) := by decide +kernel
theorem dX12_init_766 : decode cX12_init 766 = .ok (.dup, 1) := by decide +kernel
theorem dX12_init_767 : decode cX12_init 767 = .ok (.bipush 127, 2) := by decide +kernel
theorem dX12_init_769 : decode cX12_init 769 = .ok (.bipush 32, 2) := by decide +kernel
theorem dX12_init_771 : decode cX12_init 771 = .ok (.iastore, 1) := by decide +kernel
theorem dX12_init_772 : decode cX12_init 772 = .ok (.dup, 1) := by decide +kernel
theorem dX12_init_773 : decode cX12_init 773 = .ok (.sipush 128, 3) := by decide +kernel
theorem dX12_init_776 : decode cX12_init 776 = .ok (.bipush 102, 2) := by decide +kernel
theorem dX12_init_778 : decode cX12_init 778 = .ok (.iastore, 1) := by decide +kernel
theorem dX12_init_779 : decode cX12_init 779 = .ok (.dup, 1) := by decide +kernel
theorem dX12_init_780 : decode cX12_init 780 = .ok (.sipush 129, 3) := by decide +kernel
theorem dX12_init_783 : decode cX12_init 783 = .ok (.bipush 114, 2) := by decide +kernel
theorem dX12_init_785 : decode cX12_init 785 = .ok (.iastore, 1) := by decide +kernel
theorem dX12_init_786 : decode cX12_init 786 = .ok (.dup, 1) := by decide +kernel
theorem dX12_init_787 : decode cX12_init 787 = .ok (.sipush 130, 3) := by decide +kernel
theorem dX12_init_790 : decode cX12_init 790 = .ok (.bipush 111, 2) := by decide +kernel
theorem dX12_init_792 : decode cX12_init 792 = .ok (.iastore, 1) := by decide +kernel
theorem dX12_init_793 : decode cX12_init 793 = .ok (.dup, 1) := by decide +kernel
theorem dX12_init_794 : decode cX12_init 794 = .ok (.sipush 131, 3) := by decide +kernel
theorem dX12_init_797 : decode cX12_init 797 = .ok (.bipush 109, 2) := by decide +kernel
theorem dX12_init_799 : decode cX12_init 799 = .ok (.iastore, 1) := by decide +kernel
theorem dX12_init_800 : decode cX12_init 800 = .ok (.dup, 1) := by decide +kernel
theorem dX12_init_801 : decode cX12_init 801 = .ok (.sipush 132, 3) := by decide +kernel
theorem dX12_init_804 : decode cX12_init 804 = .ok (.bipush 32, 2) := by decide +kernel
theorem dX12_init_806 : decode cX12_init 806 = .ok (.iastore, 1) := by decide +kernel
theorem dX12_init_807 : decode cX12_init 807 = .ok (.dup, 1) := by decide +kernel
theorem dX12_init_808 : decode cX12_init 808 = .ok (.sipush 133, 3) := by decide +kernel
theorem dX12_init_811 : decode cX12_init 811 = .ok (.bipush 102, 2) := by decide +kernel
theorem dX12_init_813 : decode cX12_init 813 = .ok (.iastore, 1) := by decide +kernel
theorem dX12_init_814 : decode cX12_init 814 = .ok (.dup, 1) := by decide +kernel
theorem dX12_init_815 : decode cX12_init 815 = .ok (.sipush 134, 3) := by decide +kernel
theorem dX12_init_818 : decode cX12_init 818 = .ok (.bipush 114, 2) := by decide +kernel
theorem dX12_init_820 : decode cX12_init 820 = .ok (.iastore, 1) := by decide +kernel
theorem dX12_init_821 : decode cX12_init 821 = .ok (.dup, 1) := by decide +kernel
theorem dX12_init_822 : decode cX12_init 822 = .ok (.sipush 135, 3) := by decide +kernel
theorem dX12_init_825 : decode cX12_init 825 = .ok (.bipush 111, 2) := by decide +kernel
theorem dX12_init_827 : decode cX12_init 827 = .ok (.iastore, 1) := by decide +kernel
theorem dX12_init_828 : decode cX12_init 828 = .ok (.dup, 1) := by decide +kernel
theorem dX12_init_829 : decode cX12_init 829 = .ok (.sipush 136, 3) := by decide +kernel
theorem dX12_init_832 : decode cX12_init 832 = .ok (.bipush 109, 2) := by decide +kernel
theorem dX12_init_834 : decode cX12_init 834 = .ok (.iastore, 1) := by decide +kernel
theorem dX12_init_835 : decode cX12_init 835 = .ok (.dup, 1) := by decide +kernel
theorem dX12_init_836 : decode cX12_init 836 = .ok (.sipush 137, 3) := by decide +kernel
theorem dX12_init_839 : decode cX12_init 839 = .ok (.bipush 98, 2) := by decide +kernel
theorem dX12_init_841 : decode cX12_init 841 = .ok (.iastore, 1) := by decide +kernel
theorem dX12_init_842 : decode cX12_init 842 = .ok (.dup, 1) := by decide +kernel
theorem dX12_init_843 : decode cX12_init 843 = .ok (.sipush 138, 3) := by decide +kernel
theorem dX12_init_846 : decode cX12_init 846 = .ok (.bipush 32, 2) := by decide +kernel
theorem dX12_init_848 : decode cX12_init 848 = .ok (.iastore, 1) := by decide +kernel
theorem dX12_init_849 : decode cX12_init 849 = .ok (.dup, 1) := by decide +kernel
theorem dX12_init_850 : decode cX12_init 850 = .ok (.sipush 139, 3) := by decide +kernel
theorem dX12_init_853 : decode cX12_init 853 = .ok (.bipush 102, 2) := by decide +kernel
theorem dX12_init_855 : decode cX12_init 855 = .ok (.iastore, 1) := by decide +kernel
theorem dX12_init_856 : decode cX12_init 856 = .ok (.dup, 1) := by decide +kernel
theorem dX12_init_857 : decode cX12_init 857 = .ok (.sipush 140, 3) := by decide +kernel
theorem dX12_init_860 : decode cX12_init 860 = .ok (.bipush 114, 2) := by decide +kernel
theorem dX12_init_862 : decode cX12_init 862 = .ok (.iastore, 1) := by decide +kernel
theorem dX12_init_863 : decode cX12_init 863 = .ok (.dup, 1) := by decide +kernel
theorem dX12_init_864 : decode cX12_init 864 = .ok (.sipush 141, 3) := by decide +kernel
theorem dX12_init_867 : decode cX12_init 867 = .ok (.bipush 111, 2) := by decide +kernel
theorem dX12_init_869 : decode cX12_init 869 = .ok (.iastore, 1) := by decide +kernel
theorem dX12_init_870 : decode cX12_init 870 = .ok (.dup, 1) := by decide +kernel
theorem dX12_init_871 : decode cX12_init 871 = .ok (.sipush 142, 3) := by decide +kernel
theorem dX12_init_874 : decode cX12_init 874 = .ok (.bipush 109, 2) := by decide +kernel
theorem dX12_init_876 : decode cX12_init 876 = .ok (.iastore, 1) := by decide +kernel
theorem dX12_init_877 : decode cX12_init 877 = .ok (.dup, 1) := by decide +kernel
theorem dX12_init_878 : decode cX12_init 878 = .ok (.sipush 143, 3) := by decide +kernel
theorem dX12_init_881 : decode cX12_init 881 = .ok (.bipush 101, 2) := by decide +kernel
theorem dX12_init_883 : decode cX12_init 883 = .ok (.iastore, 1) := by decide +kernel
theorem dX12_init_884 : decode cX12_init 884 = .ok (.dup, 1) := by decide +kernel
theorem dX12_init_885 : decode cX12_init 885 = .ok (.sipush 144, 3) := by decide +kernel
theorem dX12_init_888 : decode cX12_init 888 = .ok (.bipush 32, 2) := by decide +kernel
theorem dX12_init_890 : decode cX12_init 890 = .ok (.iastore, 1) := by decide +kernel
theorem dX12_init_891 : decode cX12_init 891 = .ok (.dup, 1) := by decide +kernel
theorem dX12_init_892 : decode cX12_init 892 = .ok (.sipush 145, 3) := by decide +kernel
theorem dX12_init_895 : decode cX12_init 895 = .ok (.bipush 111, 2) := by decide +kernel
theorem dX12_init_897 : decode cX12_init 897 = .ok (.iastore, 1) := by decide +kernel
theorem dX12_init_898 : decode cX12_init 898 = .ok (.dup, 1) := by decide +kernel
theorem dX12_init_899 : decode cX12_init 899 = .ok (.sipush 146, 3) := by decide +kernel
theorem dX12_init_902 : decode cX12_init 902 = .ok (.bipush 109, 2) := by decide +kernel
theorem dX12_init_904 : decode cX12_init 904 = .ok (.iastore, 1) := by decide +kernel
theorem dX12_init_905 : decode cX12_init 905 = .ok (.dup, 1) := by decide +kernel
theorem dX12_init_906 : decode cX12_init 906 = .ok (.sipush 147, 3) := by decide +kernel
theorem dX12_init_909 : decode cX12_init 909 = .ok (.bipush 32, 2) := by decide +kernel
theorem dX12_init_911 : decode cX12_init 911 = .ok (.iastore, 1) := by decide +kernel
theorem dX12_init_912 : decode cX12_init 912 = .ok (.dup, 1) := by decide +kernel
theorem dX12_init_913 : decode cX12_init 913 = .ok (.sipush 148, 3) := by decide +kernel
theorem dX12_init_916 : decode cX12_init 916 = .ok (.bipush 116, 2) := by decide +kernel
theorem dX12_init_918 : decode cX12_init 918 = .ok (.iastore, 1) := by decide +kernel
theorem dX12_init_919 : decode cX12_init 919 = .ok (.dup, 1) := by decide +kernel
theorem dX12_init_920 : decode cX12_init 920 = .ok (.sipush 149, 3) := by decide +kernel
theorem dX12_init_923 : decode cX12_init 923 = .ok (.bipush 114, 2) := by decide +kernel
theorem dX12_init_925 : decode cX12_init 925 = .ok (.iastore, 1) := by decide +kernel
theorem dX12_init_926 : decode cX12_init 926 = .ok (.dup, 1) := by decide +kernel
theorem dX12_init_927 : decode cX12_init 927 = .ok (.sipush 150, 3) := by decide +kernel
theorem dX12_init_930 : decode cX12_init 930 = .ok (.bipush 117, 2) := by decide +kernel
theorem dX12_init_932 : decode cX12_init 932 = .ok (.iastore, 1) := by decide +kernel
theorem dX12_init_933 : decode cX12_init 933 = .ok (.dup, 1) := by decide +kernel
theorem dX12_init_934 : decode cX12_init 934 = .ok (.sipush 151, 3) := by decide +kernel
theorem dX12_init_937 : decode cX12_init 937 = .ok (.bipush 101, 2) := by decide +kernel
theorem dX12_init_939 : decode cX12_init 939 = .ok (.iastore, 1) := by decide +kernel
theorem dX12_init_940 : decode cX12_init 940 = .ok (.dup, 1) := by decide +kernel
theorem dX12_init_941 : decode cX12_init 941 = .ok (.sipush 152, 3) := by decide +kernel
theorem dX12_init_944 : decode cX12_init 944 = .ok (.bipush 32, 2) := by decide +kernel
theorem dX12_init_946 : decode cX12_init 946 = .ok (.iastore, 1) := by decide +kernel
theorem dX12_init_947 : decode cX12_init 947 = .ok (.dup, 1) := by decide +kernel
theorem dX12_init_948 : decode cX12_init 948 = .ok (.sipush 153, 3) := by decide +kernel
theorem dX12_init_951 : decode cX12_init 951 = .ok (.bipush 102, 2) := by decide +kernel
theorem dX12_init_953 : decode cX12_init 953 = .ok (.iastore, 1) := by decide +kernel
theorem dX12_init_954 : decode cX12_init 954 = .ok (.dup, 1) := by decide +kernel
theorem dX12_init_955 : decode cX12_init 955 = .ok (.sipush 154, 3) := by decide +kernel
theorem dX12_init_958 : decode cX12_init 958 = .ok (.bipush 97, 2) := by decide +kernel
theorem dX12_init_960 : decode cX12_init 960 = .ok (.iastore, 1) := by decide +kernel
theorem dX12_init_961 : decode cX12_init 961 = .ok (.dup, 1) := by decide +kernel
theorem dX12_init_962 : decode cX12_init 962 = .ok (.sipush 155, 3) := by decide +kernel
theorem dX12_init_965 : decode cX12_init 965 = .ok (.bipush 108, 2) := by decide +kernel
theorem dX12_init_967 : decode cX12_init 967 = .ok (.iastore, 1) := by decide +kernel
theorem dX12_init_968 : decode cX12_init 968 = .ok (.dup, 1) := by decide +kernel
theorem dX12_init_969 : decode cX12_init 969 = .ok (.sipush 156, 3) := by decide +kernel
theorem dX12_init_972 : decode cX12_init 972 = .ok (.bipush 115, 2) := by decide +kernel
theorem dX12_init_974 : decode cX12_init 974 = .ok (.iastore, 1) := by decide +kernel
theorem dX12_init_975 : decode cX12_init 975 = .ok (.dup, 1) := by decide +kernel
theorem dX12_init_976 : decode cX12_init 976 = .ok (.sipush 157, 3) := by decide +kernel
theorem dX12_init_979 : decode cX12_init 979 = .ok (.bipush 101, 2) := by decide +kernel
theorem dX12_init_981 : decode cX12_init 981 = .ok (.iastore, 1) := by decide +kernel
theorem dX12_init_982 : decode cX12_init 982 = .ok (.dup, 1) := by decide +kernel
theorem dX12_init_983 : decode cX12_init 983 = .ok (.sipush 158, 3) := by decide +kernel
theorem dX12_init_986 : decode cX12_init 986 = .ok (.bipush 32, 2) := by decide +kernel
theorem dX12_init_988 : decode cX12_init 988 = .ok (.iastore, 1) := by decide +kernel
theorem dX12_init_989 : decode cX12_init 989 = .ok (.dup, 1) := by decide +kernel
theorem dX12_init_990 : decode cX12_init 990 = .ok (.sipush 159, 3) := by decide +kernel
theorem dX12_init_993 : decode cX12_init 993 = .ok (.bipush 111, 2) := by decide +kernel
theorem dX12_init_995 : decode cX12_init 995 = .ok (.iastore, 1) := by decide +kernel
theorem dX12_init_996 : decode cX12_init 996 = .ok (.dup, 1) := by decide +kernel
theorem dX12_init_997 : decode cX12_init 997 = .ok (.sipush 160, 3) := by decide +kernel
theorem dX12_init_1000 : decode cX12_init 1000 = .ok (.bipush 107, 2) := by decide +kernel
theorem dX12_init_1002 : decode cX12_init 1002 = .ok (.iastore, 1) := by decide +kernel
theorem dX12_init_1003 : decode cX12_init 1003 = .ok (.dup, 1) := by decide +kernel
theorem dX12_init_1004 : decode cX12_init 1004 = .ok (.sipush 161, 3) := by decide +kernel
theorem dX12_init_1007 : decode cX12_init 1007 = .ok (.bipush 32, 2) := by decide +kernel
theorem dX12_init_1009 : decode cX12_init 1009 = .ok (.iastore, 1) := by decide +kernel
theorem dX12_init_1010 : decode cX12_init 1010 = .ok (.dup, 1) := by decide +kernel
theorem dX12_init_1011 : decode cX12_init 1011 = .ok (.sipush 162, 3) := by decide +kernel
theorem dX12_init_1014 : decode cX12_init 1014 = .ok (.bipush 97, 2) := by decide +kernel
theorem dX12_init_1016 : decode cX12_init 1016 = .ok (.iastore, 1) := by decide +kernel
theorem dX12_init_1017 : decode cX12_init 1017 = .ok (.dup, 1) := by decide +kernel
theorem dX12_init_1018 : decode cX12_init 1018 = .ok (.sipush 163, 3) := by decide +kernel
theorem dX12_init_1021 : decode cX12_init 1021 = .ok (.bipush 110, 2) := by decide +kernel
theorem dX12_init_1023 : decode cX12_init 1023 = .ok (.iastore, 1) := by decide +kernel
theorem dX12_init_1024 : decode cX12_init 1024 = .ok (.dup, 1) := by decide +kernel
theorem dX12_init_1025 : decode cX12_init 1025 = .ok (.sipush 164, 3) := by decide +kernel
theorem dX12_init_1028 : decode cX12_init 1028 = .ok (.bipush 100, 2) := by decide +kernel
theorem dX12_init_1030 : decode cX12_init 1030 = .ok (.iastore, 1) := by decide +kernel
theorem dX12_init_1031 : decode cX12_init 1031 = .ok (.dup, 1) := by decide +kernel
theorem dX12_init_1032 : decode cX12_init 1032 = .ok (.sipush 165, 3) := by decide +kernel
theorem dX12_init_1035 : decode cX12_init 1035 = .ok (.bipush 32, 2) := by decide +kernel
theorem dX12_init_1037 : decode cX12_init 1037 = .ok (.iastore, 1) := by decide +kernel
theorem dX12_init_1038 : decode cX12_init 1038 = .ok (.dup, 1) := by decide +kernel
theorem dX12_init_1039 : decode cX12_init 1039 = .ok (.sipush 166, 3) := by decide +kernel
theorem dX12_init_1042 : decode cX12_init 1042 = .ok (.bipush 111, 2) := by decide +kernel
theorem dX12_init_1044 : decode cX12_init 1044 = .ok (.iastore, 1) := by decide +kernel
theorem dX12_init_1045 : decode cX12_init 1045 = .ok (.dup, 1) := by decide +kernel
theorem dX12_init_1046 : decode cX12_init 1046 = .ok (.sipush 167, 3) := by decide +kernel
theorem dX12_init_1049 : decode cX12_init 1049 = .ok (.bipush 114, 2) := by decide +kernel
theorem dX12_init_1051 : decode cX12_init 1051 = .ok (.iastore, 1) := by decide +kernel
theorem dX12_init_1052 : decode cX12_init 1052 = .ok (.dup, 1) := by decide +kernel
theorem dX12_init_1053 : decode cX12_init 1053 = .ok (.sipush 168, 3) := by decide +kernel
theorem dX12_init_1056 : decode cX12_init 1056 = .ok (.bipush 32, 2) := by decide +kernel
theorem dX12_init_1058 : decode cX12_init 1058 = .ok (.iastore, 1) := by decide +kernel
theorem dX12_init_1059 : decode cX12_init 1059 = .ok (.dup, 1) := by decide +kernel
theorem dX12_init_1060 : decode cX12_init 1060 = .ok (.sipush 169, 3) := by decide +kernel
theorem dX12_init_1063 : decode cX12_init 1063 = .ok (.bipush 110, 2) := by decide +kernel
theorem dX12_init_1065 : decode cX12_init 1065 = .ok (.iastore, 1) := by decide +kernel
theorem dX12_init_1066 : decode cX12_init 1066 = .ok (.dup, 1) := by decide +kernel
theorem dX12_init_1067 : decode cX12_init 1067 = .ok (.sipush 170, 3) := by decide +kernel
theorem dX12_init_1070 : decode cX12_init 1070 = .ok (.bipush 111, 2) := by decide +kernel
theorem dX12_init_1072 : decode cX12_init 1072 = .ok (.iastore, 1) := by decide +kernel
theorem dX12_init_1073 : decode cX12_init 1073 = .ok (.dup, 1) := by decide +kernel
theorem dX12_init_1074 : decode cX12_init 1074 = .ok (.sipush 171, 3) := by decide +kernel
theorem dX12_init_1077 : decode cX12_init 1077 = .ok (.bipush 116, 2) := by decide +kernel
theorem dX12_init_1079 : decode cX12_init 1079 = .ok (.iastore, 1) := by decide +kernel
theorem dX12_init_1080 : decode cX12_init 1080 = .ok (.dup, 1) := by decide +kernel
theorem dX12_init_1081 : decode cX12_init 1081 = .ok (.sipush 172, 3) := by decide +kernel
theorem dX12_init_1084 : decode cX12_init 1084 = .ok (.bipush 32, 2) := by decide +kernel
theorem dX12_init_1086 : decode cX12_init 1086 = .ok (.iastore, 1) := by decide +kernel
theorem dX12_init_1087 : decode cX12_init 1087 = .ok (.dup, 1) := by decide +kernel
theorem dX12_init_1088 : decode cX12_init 1088 = .ok (.sipush 173, 3) := by decide +kernel
theorem dX12_init_1091 : decode cX12_init 1091 = .ok (.bipush 100, 2) := by decide +kernel
theorem dX12_init_1093 : decode cX12_init 1093 = .ok (.iastore, 1) := by decide +kernel
theorem dX12_init_1094 : decode cX12_init 1094 = .ok (.dup, 1) := by decide +kernel
theorem dX12_init_1095 : decode cX12_init 1095 = .ok (.sipush 174, 3) := by decide +kernel
theorem dX12_init_1098 : decode cX12_init 1098 = .ok (.bipush 105, 2) := by decide +kernel
theorem dX12_init_1100 : decode cX12_init 1100 = .ok (.iastore, 1) := by decide +kernel
theorem dX12_init_1101 : decode cX12_init 1101 = .ok (.dup, 1) := by decide +kernel
theorem dX12_init_1102 : decode cX12_init 1102 = .ok (.sipush 175, 3) := by decide +kernel
theorem dX12_init_1105 : decode cX12_init 1105 = .ok (.bipush 118, 2) := by decide +kernel
theorem dX12_init_1107 : decode cX12_init 1107 = .ok (.iastore, 1) := by decide +kernel
theorem dX12_init_1108 : decode cX12_init 1108 = .ok (.dup, 1) := by decide +kernel
theorem dX12_init_1109 : decode cX12_init 1109 = .ok (.sipush 176, 3) := by decide +kernel
theorem dX12_init_1112 : decode cX12_init 1112 = .ok (.bipush 32, 2) := by decide +kernel
theorem dX12_init_1114 : decode cX12_init 1114 = .ok (.iastore, 1) := by decide +kernel
theorem dX12_init_1115 : decode cX12_init 1115 = .ok (.dup, 1) := by decide +kernel
theorem dX12_init_1116 : decode cX12_init 1116 = .ok (.sipush 177, 3) := by decide +kernel
theorem dX12_init_1119 : decode cX12_init 1119 = .ok (.bipush 109, 2) := by decide +kernel
theorem dX12_init_1121 : decode cX12_init 1121 = .ok (.iastore, 1) := by decide +kernel
theorem dX12_init_1122 : decode cX12_init 1122 = .ok (.dup, 1) := by decide +kernel
