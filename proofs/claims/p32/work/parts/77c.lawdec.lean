theorem mj_dL_626 : decode mj_law.2.1 626 = .ok (.invokevirtual 82, 3) := by decide +kernel
theorem mj_dL_629 : decode mj_law.2.1 629 = .ok (.pop, 1) := by decide +kernel
theorem mj_dL_630 : decode mj_law.2.1 630 = .ok (.aload_n 2, 1) := by decide +kernel
theorem mj_dL_631 : decode mj_law.2.1 631 = .ok (.aload_n 0, 1) := by decide +kernel
theorem mj_dL_632 : decode mj_law.2.1 632 = .ok (.iload_n 3, 1) := by decide +kernel
theorem mj_dL_633 : decode mj_law.2.1 633 = .ok (.iconst 1, 1) := by decide +kernel
theorem mj_dL_634 : decode mj_law.2.1 634 = .ok (.iadd, 1) := by decide +kernel
theorem mj_dL_635 : decode mj_law.2.1 635 = .ok (.iaload, 1) := by decide +kernel
theorem mj_dL_636 : decode mj_law.2.1 636 = .ok (.aload_n 0, 1) := by decide +kernel
theorem mj_dL_637 : decode mj_law.2.1 637 = .ok (.iload_n 3, 1) := by decide +kernel
theorem mj_dL_638 : decode mj_law.2.1 638 = .ok (.iconst 2, 1) := by decide +kernel
theorem mj_dL_639 : decode mj_law.2.1 639 = .ok (.iadd, 1) := by decide +kernel
theorem mj_dL_640 : decode mj_law.2.1 640 = .ok (.iaload, 1) := by decide +kernel
theorem mj_dL_641 : decode mj_law.2.1 641 = .ok (.aload_n 0, 1) := by decide +kernel
theorem mj_dL_642 : decode mj_law.2.1 642 = .ok (.iload_n 3, 1) := by decide +kernel
theorem mj_dL_643 : decode mj_law.2.1 643 = .ok (.iconst 3, 1) := by decide +kernel
theorem mj_dL_644 : decode mj_law.2.1 644 = .ok (.iadd, 1) := by decide +kernel
theorem mj_dL_645 : decode mj_law.2.1 645 = .ok (.iaload, 1) := by decide +kernel
theorem mj_dL_646 : decode mj_law.2.1 646 = .ok (.invokevirtual 85, 3) := by decide +kernel
theorem mj_dL_649 : decode mj_law.2.1 649 = .ok (.pop, 1) := by decide +kernel
theorem mj_dL_650 : decode mj_law.2.1 650 = .ok (.goto 431, 3) := by decide +kernel
theorem mj_dL_653 : decode mj_law.2.1 653 = .ok (.aload_n 1, 1) := by decide +kernel
theorem mj_dL_654 : decode mj_law.2.1 654 = .ok (.aload_n 0, 1) := by decide +kernel
theorem mj_dL_655 : decode mj_law.2.1 655 = .ok (.iload_n 3, 1) := by decide +kernel
theorem mj_dL_656 : decode mj_law.2.1 656 = .ok (.iconst 1, 1) := by decide +kernel
theorem mj_dL_657 : decode mj_law.2.1 657 = .ok (.iadd, 1) := by decide +kernel
theorem mj_dL_658 : decode mj_law.2.1 658 = .ok (.iaload, 1) := by decide +kernel
theorem mj_dL_659 : decode mj_law.2.1 659 = .ok (.aload_n 0, 1) := by decide +kernel
theorem mj_dL_660 : decode mj_law.2.1 660 = .ok (.iload_n 3, 1) := by decide +kernel
theorem mj_dL_661 : decode mj_law.2.1 661 = .ok (.iconst 2, 1) := by decide +kernel
theorem mj_dL_662 : decode mj_law.2.1 662 = .ok (.iadd, 1) := by decide +kernel
theorem mj_dL_663 : decode mj_law.2.1 663 = .ok (.iaload, 1) := by decide +kernel
theorem mj_dL_664 : decode mj_law.2.1 664 = .ok (.aload_n 0, 1) := by decide +kernel
theorem mj_dL_665 : decode mj_law.2.1 665 = .ok (.iload_n 3, 1) := by decide +kernel
theorem mj_dL_666 : decode mj_law.2.1 666 = .ok (.iconst 3, 1) := by decide +kernel
theorem mj_dL_667 : decode mj_law.2.1 667 = .ok (.iadd, 1) := by decide +kernel
theorem mj_dL_668 : decode mj_law.2.1 668 = .ok (.iaload, 1) := by decide +kernel
theorem mj_dL_669 : decode mj_law.2.1 669 = .ok (.invokevirtual 86, 3) := by decide +kernel
theorem mj_dL_672 : decode mj_law.2.1 672 = .ok (.pop, 1) := by decide +kernel
theorem mj_dL_673 : decode mj_law.2.1 673 = .ok (.aload_n 2, 1) := by decide +kernel
theorem mj_dL_674 : decode mj_law.2.1 674 = .ok (.aload_n 0, 1) := by decide +kernel
theorem mj_dL_675 : decode mj_law.2.1 675 = .ok (.iload_n 3, 1) := by decide +kernel
theorem mj_dL_676 : decode mj_law.2.1 676 = .ok (.iconst 1, 1) := by decide +kernel
theorem mj_dL_677 : decode mj_law.2.1 677 = .ok (.iadd, 1) := by decide +kernel
theorem mj_dL_678 : decode mj_law.2.1 678 = .ok (.iaload, 1) := by decide +kernel
theorem mj_dL_679 : decode mj_law.2.1 679 = .ok (.aload_n 0, 1) := by decide +kernel
theorem mj_dL_680 : decode mj_law.2.1 680 = .ok (.iload_n 3, 1) := by decide +kernel
theorem mj_dL_681 : decode mj_law.2.1 681 = .ok (.iconst 2, 1) := by decide +kernel
theorem mj_dL_682 : decode mj_law.2.1 682 = .ok (.iadd, 1) := by decide +kernel
theorem mj_dL_683 : decode mj_law.2.1 683 = .ok (.iaload, 1) := by decide +kernel
theorem mj_dL_684 : decode mj_law.2.1 684 = .ok (.aload_n 0, 1) := by decide +kernel
theorem mj_dL_685 : decode mj_law.2.1 685 = .ok (.iload_n 3, 1) := by decide +kernel
theorem mj_dL_686 : decode mj_law.2.1 686 = .ok (.iconst 3, 1) := by decide +kernel
theorem mj_dL_687 : decode mj_law.2.1 687 = .ok (.iadd, 1) := by decide +kernel
theorem mj_dL_688 : decode mj_law.2.1 688 = .ok (.iaload, 1) := by decide +kernel
theorem mj_dL_689 : decode mj_law.2.1 689 = .ok (.invokevirtual 89, 3) := by decide +kernel
theorem mj_dL_692 : decode mj_law.2.1 692 = .ok (.pop, 1) := by decide +kernel
theorem mj_dL_693 : decode mj_law.2.1 693 = .ok (.goto 388, 3) := by decide +kernel
theorem mj_dL_696 : decode mj_law.2.1 696 = .ok (.aload_n 1, 1) := by decide +kernel
theorem mj_dL_697 : decode mj_law.2.1 697 = .ok (.aload_n 0, 1) := by decide +kernel
theorem mj_dL_698 : decode mj_law.2.1 698 = .ok (.iload_n 3, 1) := by decide +kernel
theorem mj_dL_699 : decode mj_law.2.1 699 = .ok (.iconst 1, 1) := by decide +kernel
theorem mj_dL_700 : decode mj_law.2.1 700 = .ok (.iadd, 1) := by decide +kernel
theorem mj_dL_701 : decode mj_law.2.1 701 = .ok (.iaload, 1) := by decide +kernel
theorem mj_dL_702 : decode mj_law.2.1 702 = .ok (.aload_n 0, 1) := by decide +kernel
theorem mj_dL_703 : decode mj_law.2.1 703 = .ok (.iload_n 3, 1) := by decide +kernel
theorem mj_dL_704 : decode mj_law.2.1 704 = .ok (.iconst 2, 1) := by decide +kernel
theorem mj_dL_705 : decode mj_law.2.1 705 = .ok (.iadd, 1) := by decide +kernel
theorem mj_dL_706 : decode mj_law.2.1 706 = .ok (.iaload, 1) := by decide +kernel
theorem mj_dL_707 : decode mj_law.2.1 707 = .ok (.invokevirtual 90, 3) := by decide +kernel
theorem mj_dL_710 : decode mj_law.2.1 710 = .ok (.pop, 1) := by decide +kernel
theorem mj_dL_711 : decode mj_law.2.1 711 = .ok (.aload_n 2, 1) := by decide +kernel
theorem mj_dL_712 : decode mj_law.2.1 712 = .ok (.aload_n 0, 1) := by decide +kernel
theorem mj_dL_713 : decode mj_law.2.1 713 = .ok (.iload_n 3, 1) := by decide +kernel
theorem mj_dL_714 : decode mj_law.2.1 714 = .ok (.iconst 1, 1) := by decide +kernel
theorem mj_dL_715 : decode mj_law.2.1 715 = .ok (.iadd, 1) := by decide +kernel
theorem mj_dL_716 : decode mj_law.2.1 716 = .ok (.iaload, 1) := by decide +kernel
theorem mj_dL_717 : decode mj_law.2.1 717 = .ok (.aload_n 0, 1) := by decide +kernel
theorem mj_dL_718 : decode mj_law.2.1 718 = .ok (.iload_n 3, 1) := by decide +kernel
theorem mj_dL_719 : decode mj_law.2.1 719 = .ok (.iconst 2, 1) := by decide +kernel
theorem mj_dL_720 : decode mj_law.2.1 720 = .ok (.iadd, 1) := by decide +kernel
theorem mj_dL_721 : decode mj_law.2.1 721 = .ok (.iaload, 1) := by decide +kernel
theorem mj_dL_722 : decode mj_law.2.1 722 = .ok (.invokevirtual 93, 3) := by decide +kernel
theorem mj_dL_725 : decode mj_law.2.1 725 = .ok (.pop, 1) := by decide +kernel
theorem mj_dL_726 : decode mj_law.2.1 726 = .ok (.goto 355, 3) := by decide +kernel
theorem mj_dL_729 : decode mj_law.2.1 729 = .ok (.aload_n 1, 1) := by decide +kernel
theorem mj_dL_730 : decode mj_law.2.1 730 = .ok (.aload_n 0, 1) := by decide +kernel
theorem mj_dL_731 : decode mj_law.2.1 731 = .ok (.iload_n 3, 1) := by decide +kernel
theorem mj_dL_732 : decode mj_law.2.1 732 = .ok (.iconst 1, 1) := by decide +kernel
theorem mj_dL_733 : decode mj_law.2.1 733 = .ok (.iadd, 1) := by decide +kernel
theorem mj_dL_734 : decode mj_law.2.1 734 = .ok (.iaload, 1) := by decide +kernel
theorem mj_dL_735 : decode mj_law.2.1 735 = .ok (.aload_n 0, 1) := by decide +kernel
theorem mj_dL_736 : decode mj_law.2.1 736 = .ok (.iload_n 3, 1) := by decide +kernel
theorem mj_dL_737 : decode mj_law.2.1 737 = .ok (.iconst 2, 1) := by decide +kernel
theorem mj_dL_738 : decode mj_law.2.1 738 = .ok (.iadd, 1) := by decide +kernel
theorem mj_dL_739 : decode mj_law.2.1 739 = .ok (.iaload, 1) := by decide +kernel
theorem mj_dL_740 : decode mj_law.2.1 740 = .ok (.aload_n 0, 1) := by decide +kernel
theorem mj_dL_741 : decode mj_law.2.1 741 = .ok (.iload_n 3, 1) := by decide +kernel
theorem mj_dL_742 : decode mj_law.2.1 742 = .ok (.iconst 3, 1) := by decide +kernel
theorem mj_dL_743 : decode mj_law.2.1 743 = .ok (.iadd, 1) := by decide +kernel
theorem mj_dL_744 : decode mj_law.2.1 744 = .ok (.iaload, 1) := by decide +kernel
theorem mj_dL_745 : decode mj_law.2.1 745 = .ok (.invokevirtual 94, 3) := by decide +kernel
theorem mj_dL_748 : decode mj_law.2.1 748 = .ok (.pop, 1) := by decide +kernel
theorem mj_dL_749 : decode mj_law.2.1 749 = .ok (.aload_n 2, 1) := by decide +kernel
theorem mj_dL_750 : decode mj_law.2.1 750 = .ok (.aload_n 0, 1) := by decide +kernel
theorem mj_dL_751 : decode mj_law.2.1 751 = .ok (.iload_n 3, 1) := by decide +kernel
theorem mj_dL_752 : decode mj_law.2.1 752 = .ok (.iconst 1, 1) := by decide +kernel
theorem mj_dL_753 : decode mj_law.2.1 753 = .ok (.iadd, 1) := by decide +kernel
theorem mj_dL_754 : decode mj_law.2.1 754 = .ok (.iaload, 1) := by decide +kernel
theorem mj_dL_755 : decode mj_law.2.1 755 = .ok (.aload_n 0, 1) := by decide +kernel
theorem mj_dL_756 : decode mj_law.2.1 756 = .ok (.iload_n 3, 1) := by decide +kernel
theorem mj_dL_757 : decode mj_law.2.1 757 = .ok (.iconst 2, 1) := by decide +kernel
theorem mj_dL_758 : decode mj_law.2.1 758 = .ok (.iadd, 1) := by decide +kernel
theorem mj_dL_759 : decode mj_law.2.1 759 = .ok (.iaload, 1) := by decide +kernel
theorem mj_dL_760 : decode mj_law.2.1 760 = .ok (.aload_n 0, 1) := by decide +kernel
theorem mj_dL_761 : decode mj_law.2.1 761 = .ok (.iload_n 3, 1) := by decide +kernel
theorem mj_dL_762 : decode mj_law.2.1 762 = .ok (.iconst 3, 1) := by decide +kernel
theorem mj_dL_763 : decode mj_law.2.1 763 = .ok (.iadd, 1) := by decide +kernel
theorem mj_dL_764 : decode mj_law.2.1 764 = .ok (.iaload, 1) := by decide +kernel
theorem mj_dL_765 : decode mj_law.2.1 765 = .ok (.invokevirtual 97, 3) := by decide +kernel
theorem mj_dL_768 : decode mj_law.2.1 768 = .ok (.pop, 1) := by decide +kernel
theorem mj_dL_769 : decode mj_law.2.1 769 = .ok (.goto 312, 3) := by decide +kernel
theorem mj_dL_772 : decode mj_law.2.1 772 = .ok (.aload_n 1, 1) := by decide +kernel
theorem mj_dL_773 : decode mj_law.2.1 773 = .ok (.aload_n 0, 1) := by decide +kernel
theorem mj_dL_774 : decode mj_law.2.1 774 = .ok (.iload_n 3, 1) := by decide +kernel
theorem mj_dL_775 : decode mj_law.2.1 775 = .ok (.iconst 1, 1) := by decide +kernel
theorem mj_dL_776 : decode mj_law.2.1 776 = .ok (.iadd, 1) := by decide +kernel
theorem mj_dL_777 : decode mj_law.2.1 777 = .ok (.iaload, 1) := by decide +kernel
theorem mj_dL_778 : decode mj_law.2.1 778 = .ok (.invokevirtual 98, 3) := by decide +kernel
theorem mj_dL_781 : decode mj_law.2.1 781 = .ok (.pop, 1) := by decide +kernel
theorem mj_dL_782 : decode mj_law.2.1 782 = .ok (.aload_n 2, 1) := by decide +kernel
theorem mj_dL_783 : decode mj_law.2.1 783 = .ok (.aload_n 0, 1) := by decide +kernel
theorem mj_dL_784 : decode mj_law.2.1 784 = .ok (.iload_n 3, 1) := by decide +kernel
theorem mj_dL_785 : decode mj_law.2.1 785 = .ok (.iconst 1, 1) := by decide +kernel
theorem mj_dL_786 : decode mj_law.2.1 786 = .ok (.iadd, 1) := by decide +kernel
theorem mj_dL_787 : decode mj_law.2.1 787 = .ok (.iaload, 1) := by decide +kernel
theorem mj_dL_788 : decode mj_law.2.1 788 = .ok (.invokevirtual 101, 3) := by decide +kernel
theorem mj_dL_791 : decode mj_law.2.1 791 = .ok (.pop, 1) := by decide +kernel
theorem mj_dL_792 : decode mj_law.2.1 792 = .ok (.goto 289, 3) := by decide +kernel
theorem mj_dL_795 : decode mj_law.2.1 795 = .ok (.aload_n 1, 1) := by decide +kernel
theorem mj_dL_796 : decode mj_law.2.1 796 = .ok (.aload_n 0, 1) := by decide +kernel
theorem mj_dL_797 : decode mj_law.2.1 797 = .ok (.iload_n 3, 1) := by decide +kernel
theorem mj_dL_798 : decode mj_law.2.1 798 = .ok (.iconst 1, 1) := by decide +kernel
theorem mj_dL_799 : decode mj_law.2.1 799 = .ok (.iadd, 1) := by decide +kernel
theorem mj_dL_800 : decode mj_law.2.1 800 = .ok (.iaload, 1) := by decide +kernel
theorem mj_dL_801 : decode mj_law.2.1 801 = .ok (.aload_n 0, 1) := by decide +kernel
theorem mj_dL_802 : decode mj_law.2.1 802 = .ok (.iload_n 3, 1) := by decide +kernel
theorem mj_dL_803 : decode mj_law.2.1 803 = .ok (.iconst 2, 1) := by decide +kernel
theorem mj_dL_804 : decode mj_law.2.1 804 = .ok (.iadd, 1) := by decide +kernel
theorem mj_dL_805 : decode mj_law.2.1 805 = .ok (.iaload, 1) := by decide +kernel
theorem mj_dL_806 : decode mj_law.2.1 806 = .ok (.invokevirtual 102, 3) := by decide +kernel
theorem mj_dL_809 : decode mj_law.2.1 809 = .ok (.pop, 1) := by decide +kernel
theorem mj_dL_810 : decode mj_law.2.1 810 = .ok (.aload_n 2, 1) := by decide +kernel
theorem mj_dL_811 : decode mj_law.2.1 811 = .ok (.aload_n 0, 1) := by decide +kernel
theorem mj_dL_812 : decode mj_law.2.1 812 = .ok (.iload_n 3, 1) := by decide +kernel
theorem mj_dL_813 : decode mj_law.2.1 813 = .ok (.iconst 1, 1) := by decide +kernel
theorem mj_dL_814 : decode mj_law.2.1 814 = .ok (.iadd, 1) := by decide +kernel
theorem mj_dL_815 : decode mj_law.2.1 815 = .ok (.iaload, 1) := by decide +kernel
theorem mj_dL_816 : decode mj_law.2.1 816 = .ok (.aload_n 0, 1) := by decide +kernel
theorem mj_dL_817 : decode mj_law.2.1 817 = .ok (.iload_n 3, 1) := by decide +kernel
theorem mj_dL_818 : decode mj_law.2.1 818 = .ok (.iconst 2, 1) := by decide +kernel
theorem mj_dL_819 : decode mj_law.2.1 819 = .ok (.iadd, 1) := by decide +kernel
theorem mj_dL_820 : decode mj_law.2.1 820 = .ok (.iaload, 1) := by decide +kernel
theorem mj_dL_821 : decode mj_law.2.1 821 = .ok (.invokevirtual 105, 3) := by decide +kernel
theorem mj_dL_824 : decode mj_law.2.1 824 = .ok (.pop, 1) := by decide +kernel
theorem mj_dL_825 : decode mj_law.2.1 825 = .ok (.goto 256, 3) := by decide +kernel
theorem mj_dL_828 : decode mj_law.2.1 828 = .ok (.aload_n 1, 1) := by decide +kernel
theorem mj_dL_829 : decode mj_law.2.1 829 = .ok (.aload_n 0, 1) := by decide +kernel
theorem mj_dL_830 : decode mj_law.2.1 830 = .ok (.iload_n 3, 1) := by decide +kernel
theorem mj_dL_831 : decode mj_law.2.1 831 = .ok (.iconst 1, 1) := by decide +kernel
theorem mj_dL_832 : decode mj_law.2.1 832 = .ok (.iadd, 1) := by decide +kernel
theorem mj_dL_833 : decode mj_law.2.1 833 = .ok (.iaload, 1) := by decide +kernel
theorem mj_dL_834 : decode mj_law.2.1 834 = .ok (.aload_n 0, 1) := by decide +kernel
theorem mj_dL_835 : decode mj_law.2.1 835 = .ok (.iload_n 3, 1) := by decide +kernel
theorem mj_dL_836 : decode mj_law.2.1 836 = .ok (.iconst 2, 1) := by decide +kernel
theorem mj_dL_837 : decode mj_law.2.1 837 = .ok (.iadd, 1) := by decide +kernel
theorem mj_dL_838 : decode mj_law.2.1 838 = .ok (.iaload, 1) := by decide +kernel
theorem mj_dL_839 : decode mj_law.2.1 839 = .ok (.invokevirtual 106, 3) := by decide +kernel
theorem mj_dL_842 : decode mj_law.2.1 842 = .ok (.pop, 1) := by decide +kernel
theorem mj_dL_843 : decode mj_law.2.1 843 = .ok (.aload_n 2, 1) := by decide +kernel
theorem mj_dL_844 : decode mj_law.2.1 844 = .ok (.aload_n 0, 1) := by decide +kernel
theorem mj_dL_845 : decode mj_law.2.1 845 = .ok (.iload_n 3, 1) := by decide +kernel
theorem mj_dL_846 : decode mj_law.2.1 846 = .ok (.iconst 1, 1) := by decide +kernel
theorem mj_dL_847 : decode mj_law.2.1 847 = .ok (.iadd, 1) := by decide +kernel
theorem mj_dL_848 : decode mj_law.2.1 848 = .ok (.iaload, 1) := by decide +kernel
theorem mj_dL_849 : decode mj_law.2.1 849 = .ok (.aload_n 0, 1) := by decide +kernel
theorem mj_dL_850 : decode mj_law.2.1 850 = .ok (.iload_n 3, 1) := by decide +kernel
theorem mj_dL_851 : decode mj_law.2.1 851 = .ok (.iconst 2, 1) := by decide +kernel
theorem mj_dL_852 : decode mj_law.2.1 852 = .ok (.iadd, 1) := by decide +kernel
theorem mj_dL_853 : decode mj_law.2.1 853 = .ok (.iaload, 1) := by decide +kernel
