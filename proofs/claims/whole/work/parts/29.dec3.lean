theorem d_Law_law_672 : decode code 672 = .ok (.iload_n 3, 1) := by decide +kernel
theorem d_Law_law_673 : decode code 673 = .ok (.iconst 1, 1) := by decide +kernel
theorem d_Law_law_674 : decode code 674 = .ok (.iadd, 1) := by decide +kernel
theorem d_Law_law_675 : decode code 675 = .ok (.iaload, 1) := by decide +kernel
theorem d_Law_law_676 : decode code 676 = .ok (.invokevirtual 81, 3) := by decide +kernel
theorem d_Law_law_679 : decode code 679 = .ok (.aload_n 2, 1) := by decide +kernel
theorem d_Law_law_680 : decode code 680 = .ok (.aload_n 0, 1) := by decide +kernel
theorem d_Law_law_681 : decode code 681 = .ok (.iload_n 3, 1) := by decide +kernel
theorem d_Law_law_682 : decode code 682 = .ok (.iconst 1, 1) := by decide +kernel
theorem d_Law_law_683 : decode code 683 = .ok (.iadd, 1) := by decide +kernel
theorem d_Law_law_684 : decode code 684 = .ok (.iaload, 1) := by decide +kernel
theorem d_Law_law_685 : decode code 685 = .ok (.invokevirtual 84, 3) := by decide +kernel
theorem d_Law_law_688 : decode code 688 = .ok (.if_icmp .eq 635, 3) := by decide +kernel
theorem d_Law_law_691 : decode code 691 = .ok (.iconst 0, 1) := by decide +kernel
theorem d_Law_law_693 : decode code 693 = .ok (.aload_n 1, 1) := by decide +kernel
theorem d_Law_law_694 : decode code 694 = .ok (.aload_n 0, 1) := by decide +kernel
theorem d_Law_law_695 : decode code 695 = .ok (.iload_n 3, 1) := by decide +kernel
theorem d_Law_law_696 : decode code 696 = .ok (.iconst 1, 1) := by decide +kernel
theorem d_Law_law_697 : decode code 697 = .ok (.iadd, 1) := by decide +kernel
theorem d_Law_law_698 : decode code 698 = .ok (.iaload, 1) := by decide +kernel
theorem d_Law_law_699 : decode code 699 = .ok (.aload_n 0, 1) := by decide +kernel
theorem d_Law_law_700 : decode code 700 = .ok (.iload_n 3, 1) := by decide +kernel
theorem d_Law_law_701 : decode code 701 = .ok (.iconst 2, 1) := by decide +kernel
theorem d_Law_law_702 : decode code 702 = .ok (.iadd, 1) := by decide +kernel
theorem d_Law_law_703 : decode code 703 = .ok (.iaload, 1) := by decide +kernel
theorem d_Law_law_704 : decode code 704 = .ok (.aload_n 0, 1) := by decide +kernel
theorem d_Law_law_705 : decode code 705 = .ok (.iload_n 3, 1) := by decide +kernel
theorem d_Law_law_706 : decode code 706 = .ok (.iconst 3, 1) := by decide +kernel
theorem d_Law_law_707 : decode code 707 = .ok (.iadd, 1) := by decide +kernel
theorem d_Law_law_708 : decode code 708 = .ok (.iaload, 1) := by decide +kernel
theorem d_Law_law_709 : decode code 709 = .ok (.invokevirtual 85, 3) := by decide +kernel
theorem d_Law_law_712 : decode code 712 = .ok (.aload_n 2, 1) := by decide +kernel
theorem d_Law_law_713 : decode code 713 = .ok (.aload_n 0, 1) := by decide +kernel
theorem d_Law_law_714 : decode code 714 = .ok (.iload_n 3, 1) := by decide +kernel
theorem d_Law_law_715 : decode code 715 = .ok (.iconst 1, 1) := by decide +kernel
theorem d_Law_law_716 : decode code 716 = .ok (.iadd, 1) := by decide +kernel
theorem d_Law_law_717 : decode code 717 = .ok (.iaload, 1) := by decide +kernel
theorem d_Law_law_718 : decode code 718 = .ok (.aload_n 0, 1) := by decide +kernel
theorem d_Law_law_719 : decode code 719 = .ok (.iload_n 3, 1) := by decide +kernel
theorem d_Law_law_720 : decode code 720 = .ok (.iconst 2, 1) := by decide +kernel
theorem d_Law_law_721 : decode code 721 = .ok (.iadd, 1) := by decide +kernel
theorem d_Law_law_722 : decode code 722 = .ok (.iaload, 1) := by decide +kernel
theorem d_Law_law_723 : decode code 723 = .ok (.aload_n 0, 1) := by decide +kernel
theorem d_Law_law_724 : decode code 724 = .ok (.iload_n 3, 1) := by decide +kernel
theorem d_Law_law_725 : decode code 725 = .ok (.iconst 3, 1) := by decide +kernel
theorem d_Law_law_726 : decode code 726 = .ok (.iadd, 1) := by decide +kernel
theorem d_Law_law_727 : decode code 727 = .ok (.iaload, 1) := by decide +kernel
theorem d_Law_law_728 : decode code 728 = .ok (.invokevirtual 88, 3) := by decide +kernel
theorem d_Law_law_731 : decode code 731 = .ok (.if_icmp .eq 592, 3) := by decide +kernel
theorem d_Law_law_734 : decode code 734 = .ok (.iconst 0, 1) := by decide +kernel
theorem d_Law_law_736 : decode code 736 = .ok (.aload_n 1, 1) := by decide +kernel
theorem d_Law_law_737 : decode code 737 = .ok (.aload_n 0, 1) := by decide +kernel
theorem d_Law_law_738 : decode code 738 = .ok (.iload_n 3, 1) := by decide +kernel
theorem d_Law_law_739 : decode code 739 = .ok (.iconst 1, 1) := by decide +kernel
theorem d_Law_law_740 : decode code 740 = .ok (.iadd, 1) := by decide +kernel
theorem d_Law_law_741 : decode code 741 = .ok (.iaload, 1) := by decide +kernel
theorem d_Law_law_742 : decode code 742 = .ok (.aload_n 0, 1) := by decide +kernel
theorem d_Law_law_743 : decode code 743 = .ok (.iload_n 3, 1) := by decide +kernel
theorem d_Law_law_744 : decode code 744 = .ok (.iconst 2, 1) := by decide +kernel
theorem d_Law_law_745 : decode code 745 = .ok (.iadd, 1) := by decide +kernel
theorem d_Law_law_746 : decode code 746 = .ok (.iaload, 1) := by decide +kernel
theorem d_Law_law_747 : decode code 747 = .ok (.invokevirtual 89, 3) := by decide +kernel
theorem d_Law_law_750 : decode code 750 = .ok (.aload_n 2, 1) := by decide +kernel
theorem d_Law_law_751 : decode code 751 = .ok (.aload_n 0, 1) := by decide +kernel
theorem d_Law_law_752 : decode code 752 = .ok (.iload_n 3, 1) := by decide +kernel
theorem d_Law_law_753 : decode code 753 = .ok (.iconst 1, 1) := by decide +kernel
theorem d_Law_law_754 : decode code 754 = .ok (.iadd, 1) := by decide +kernel
theorem d_Law_law_755 : decode code 755 = .ok (.iaload, 1) := by decide +kernel
theorem d_Law_law_756 : decode code 756 = .ok (.aload_n 0, 1) := by decide +kernel
theorem d_Law_law_757 : decode code 757 = .ok (.iload_n 3, 1) := by decide +kernel
theorem d_Law_law_758 : decode code 758 = .ok (.iconst 2, 1) := by decide +kernel
theorem d_Law_law_759 : decode code 759 = .ok (.iadd, 1) := by decide +kernel
theorem d_Law_law_760 : decode code 760 = .ok (.iaload, 1) := by decide +kernel
theorem d_Law_law_761 : decode code 761 = .ok (.invokevirtual 92, 3) := by decide +kernel
theorem d_Law_law_764 : decode code 764 = .ok (.if_icmp .eq 559, 3) := by decide +kernel
theorem d_Law_law_767 : decode code 767 = .ok (.iconst 0, 1) := by decide +kernel
theorem d_Law_law_769 : decode code 769 = .ok (.aload_n 1, 1) := by decide +kernel
theorem d_Law_law_770 : decode code 770 = .ok (.aload_n 0, 1) := by decide +kernel
theorem d_Law_law_771 : decode code 771 = .ok (.iload_n 3, 1) := by decide +kernel
theorem d_Law_law_772 : decode code 772 = .ok (.iconst 1, 1) := by decide +kernel
theorem d_Law_law_773 : decode code 773 = .ok (.iadd, 1) := by decide +kernel
theorem d_Law_law_774 : decode code 774 = .ok (.iaload, 1) := by decide +kernel
theorem d_Law_law_775 : decode code 775 = .ok (.aload_n 0, 1) := by decide +kernel
theorem d_Law_law_776 : decode code 776 = .ok (.iload_n 3, 1) := by decide +kernel
theorem d_Law_law_777 : decode code 777 = .ok (.iconst 2, 1) := by decide +kernel
theorem d_Law_law_778 : decode code 778 = .ok (.iadd, 1) := by decide +kernel
theorem d_Law_law_779 : decode code 779 = .ok (.iaload, 1) := by decide +kernel
theorem d_Law_law_780 : decode code 780 = .ok (.invokevirtual 93, 3) := by decide +kernel
theorem d_Law_law_783 : decode code 783 = .ok (.aload_n 2, 1) := by decide +kernel
theorem d_Law_law_784 : decode code 784 = .ok (.aload_n 0, 1) := by decide +kernel
theorem d_Law_law_785 : decode code 785 = .ok (.iload_n 3, 1) := by decide +kernel
theorem d_Law_law_786 : decode code 786 = .ok (.iconst 1, 1) := by decide +kernel
theorem d_Law_law_787 : decode code 787 = .ok (.iadd, 1) := by decide +kernel
theorem d_Law_law_788 : decode code 788 = .ok (.iaload, 1) := by decide +kernel
theorem d_Law_law_789 : decode code 789 = .ok (.aload_n 0, 1) := by decide +kernel
theorem d_Law_law_790 : decode code 790 = .ok (.iload_n 3, 1) := by decide +kernel
theorem d_Law_law_791 : decode code 791 = .ok (.iconst 2, 1) := by decide +kernel
theorem d_Law_law_792 : decode code 792 = .ok (.iadd, 1) := by decide +kernel
theorem d_Law_law_793 : decode code 793 = .ok (.iaload, 1) := by decide +kernel
theorem d_Law_law_794 : decode code 794 = .ok (.invokevirtual 96, 3) := by decide +kernel
theorem d_Law_law_797 : decode code 797 = .ok (.if_icmp .eq 526, 3) := by decide +kernel
theorem d_Law_law_800 : decode code 800 = .ok (.iconst 0, 1) := by decide +kernel
theorem d_Law_law_802 : decode code 802 = .ok (.aload_n 1, 1) := by decide +kernel
theorem d_Law_law_803 : decode code 803 = .ok (.invokevirtual 97, 3) := by decide +kernel
theorem d_Law_law_806 : decode code 806 = .ok (.aload_n 2, 1) := by decide +kernel
theorem d_Law_law_807 : decode code 807 = .ok (.invokevirtual 100, 3) := by decide +kernel
theorem d_Law_law_810 : decode code 810 = .ok (.if_icmp .eq 513, 3) := by decide +kernel
theorem d_Law_law_813 : decode code 813 = .ok (.iconst 0, 1) := by decide +kernel
theorem d_Law_law_815 : decode code 815 = .ok (.aload_n 1, 1) := by decide +kernel
theorem d_Law_law_816 : decode code 816 = .ok (.aload_n 0, 1) := by decide +kernel
theorem d_Law_law_817 : decode code 817 = .ok (.iload_n 3, 1) := by decide +kernel
theorem d_Law_law_818 : decode code 818 = .ok (.iconst 1, 1) := by decide +kernel
theorem d_Law_law_819 : decode code 819 = .ok (.iadd, 1) := by decide +kernel
theorem d_Law_law_820 : decode code 820 = .ok (.iaload, 1) := by decide +kernel
theorem d_Law_law_821 : decode code 821 = .ok (.aload_n 0, 1) := by decide +kernel
theorem d_Law_law_822 : decode code 822 = .ok (.iload_n 3, 1) := by decide +kernel
theorem d_Law_law_823 : decode code 823 = .ok (.iconst 2, 1) := by decide +kernel
theorem d_Law_law_824 : decode code 824 = .ok (.iadd, 1) := by decide +kernel
theorem d_Law_law_825 : decode code 825 = .ok (.iaload, 1) := by decide +kernel
theorem d_Law_law_826 : decode code 826 = .ok (.invokevirtual 101, 3) := by decide +kernel
theorem d_Law_law_829 : decode code 829 = .ok (.aload_n 2, 1) := by decide +kernel
theorem d_Law_law_830 : decode code 830 = .ok (.aload_n 0, 1) := by decide +kernel
theorem d_Law_law_831 : decode code 831 = .ok (.iload_n 3, 1) := by decide +kernel
theorem d_Law_law_832 : decode code 832 = .ok (.iconst 1, 1) := by decide +kernel
theorem d_Law_law_833 : decode code 833 = .ok (.iadd, 1) := by decide +kernel
theorem d_Law_law_834 : decode code 834 = .ok (.iaload, 1) := by decide +kernel
theorem d_Law_law_835 : decode code 835 = .ok (.aload_n 0, 1) := by decide +kernel
theorem d_Law_law_836 : decode code 836 = .ok (.iload_n 3, 1) := by decide +kernel
theorem d_Law_law_837 : decode code 837 = .ok (.iconst 2, 1) := by decide +kernel
theorem d_Law_law_838 : decode code 838 = .ok (.iadd, 1) := by decide +kernel
