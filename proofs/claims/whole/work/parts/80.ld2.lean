theorem dL_692 : decode code 692 = .ok (.iconst 1, 1) := by decide +kernel
theorem dL_693 : decode code 693 = .ok (.iadd, 1) := by decide +kernel
theorem dL_694 : decode code 694 = .ok (.iaload, 1) := by decide +kernel
theorem dL_695 : decode code 695 = .ok (.aload_n 0, 1) := by decide +kernel
theorem dL_696 : decode code 696 = .ok (.iload_n 3, 1) := by decide +kernel
theorem dL_697 : decode code 697 = .ok (.iconst 2, 1) := by decide +kernel
theorem dL_698 : decode code 698 = .ok (.iadd, 1) := by decide +kernel
theorem dL_699 : decode code 699 = .ok (.iaload, 1) := by decide +kernel
theorem dL_700 : decode code 700 = .ok (.invokevirtual 76, 3) := by decide +kernel
theorem dL_703 : decode code 703 = .ok (.aload_n 2, 1) := by decide +kernel
theorem dL_704 : decode code 704 = .ok (.aload_n 0, 1) := by decide +kernel
theorem dL_705 : decode code 705 = .ok (.iload_n 3, 1) := by decide +kernel
theorem dL_706 : decode code 706 = .ok (.iconst 1, 1) := by decide +kernel
theorem dL_707 : decode code 707 = .ok (.iadd, 1) := by decide +kernel
theorem dL_708 : decode code 708 = .ok (.iaload, 1) := by decide +kernel
theorem dL_709 : decode code 709 = .ok (.aload_n 0, 1) := by decide +kernel
theorem dL_710 : decode code 710 = .ok (.iload_n 3, 1) := by decide +kernel
theorem dL_711 : decode code 711 = .ok (.iconst 2, 1) := by decide +kernel
theorem dL_712 : decode code 712 = .ok (.iadd, 1) := by decide +kernel
theorem dL_713 : decode code 713 = .ok (.iaload, 1) := by decide +kernel
theorem dL_714 : decode code 714 = .ok (.invokevirtual 79, 3) := by decide +kernel
theorem dL_717 : decode code 717 = .ok (.if_icmp .eq 745, 3) := by decide +kernel
theorem dL_720 : decode code 720 = .ok (.iconst 0, 1) := by decide +kernel
theorem dL_721 : decode code 721 = .ok (.ireturn, 1) := by decide +kernel
theorem dL_722 : decode code 722 = .ok (.aload_n 1, 1) := by decide +kernel
theorem dL_723 : decode code 723 = .ok (.aload_n 0, 1) := by decide +kernel
theorem dL_724 : decode code 724 = .ok (.iload_n 3, 1) := by decide +kernel
theorem dL_725 : decode code 725 = .ok (.iconst 1, 1) := by decide +kernel
theorem dL_726 : decode code 726 = .ok (.iadd, 1) := by decide +kernel
theorem dL_727 : decode code 727 = .ok (.iaload, 1) := by decide +kernel
theorem dL_728 : decode code 728 = .ok (.invokevirtual 80, 3) := by decide +kernel
theorem dL_731 : decode code 731 = .ok (.aload_n 2, 1) := by decide +kernel
theorem dL_732 : decode code 732 = .ok (.aload_n 0, 1) := by decide +kernel
theorem dL_733 : decode code 733 = .ok (.iload_n 3, 1) := by decide +kernel
theorem dL_734 : decode code 734 = .ok (.iconst 1, 1) := by decide +kernel
theorem dL_735 : decode code 735 = .ok (.iadd, 1) := by decide +kernel
theorem dL_736 : decode code 736 = .ok (.iaload, 1) := by decide +kernel
theorem dL_737 : decode code 737 = .ok (.invokevirtual 83, 3) := by decide +kernel
theorem dL_740 : decode code 740 = .ok (.if_icmp .eq 722, 3) := by decide +kernel
theorem dL_743 : decode code 743 = .ok (.iconst 0, 1) := by decide +kernel
theorem dL_744 : decode code 744 = .ok (.ireturn, 1) := by decide +kernel
theorem dL_745 : decode code 745 = .ok (.aload_n 1, 1) := by decide +kernel
theorem dL_746 : decode code 746 = .ok (.aload_n 0, 1) := by decide +kernel
theorem dL_747 : decode code 747 = .ok (.iload_n 3, 1) := by decide +kernel
theorem dL_748 : decode code 748 = .ok (.iconst 1, 1) := by decide +kernel
theorem dL_749 : decode code 749 = .ok (.iadd, 1) := by decide +kernel
theorem dL_750 : decode code 750 = .ok (.iaload, 1) := by decide +kernel
theorem dL_751 : decode code 751 = .ok (.aload_n 0, 1) := by decide +kernel
theorem dL_752 : decode code 752 = .ok (.iload_n 3, 1) := by decide +kernel
theorem dL_753 : decode code 753 = .ok (.iconst 2, 1) := by decide +kernel
theorem dL_754 : decode code 754 = .ok (.iadd, 1) := by decide +kernel
theorem dL_755 : decode code 755 = .ok (.iaload, 1) := by decide +kernel
theorem dL_756 : decode code 756 = .ok (.invokevirtual 84, 3) := by decide +kernel
theorem dL_759 : decode code 759 = .ok (.aload_n 2, 1) := by decide +kernel
theorem dL_760 : decode code 760 = .ok (.aload_n 0, 1) := by decide +kernel
theorem dL_761 : decode code 761 = .ok (.iload_n 3, 1) := by decide +kernel
theorem dL_762 : decode code 762 = .ok (.iconst 1, 1) := by decide +kernel
theorem dL_763 : decode code 763 = .ok (.iadd, 1) := by decide +kernel
theorem dL_764 : decode code 764 = .ok (.iaload, 1) := by decide +kernel
theorem dL_765 : decode code 765 = .ok (.aload_n 0, 1) := by decide +kernel
theorem dL_766 : decode code 766 = .ok (.iload_n 3, 1) := by decide +kernel
theorem dL_767 : decode code 767 = .ok (.iconst 2, 1) := by decide +kernel
theorem dL_768 : decode code 768 = .ok (.iadd, 1) := by decide +kernel
theorem dL_769 : decode code 769 = .ok (.iaload, 1) := by decide +kernel
theorem dL_770 : decode code 770 = .ok (.invokevirtual 87, 3) := by decide +kernel
theorem dL_773 : decode code 773 = .ok (.if_icmp .eq 689, 3) := by decide +kernel
theorem dL_776 : decode code 776 = .ok (.iconst 0, 1) := by decide +kernel
theorem dL_777 : decode code 777 = .ok (.ireturn, 1) := by decide +kernel
theorem dL_778 : decode code 778 = .ok (.aload_n 1, 1) := by decide +kernel
theorem dL_779 : decode code 779 = .ok (.aload_n 0, 1) := by decide +kernel
theorem dL_780 : decode code 780 = .ok (.iload_n 3, 1) := by decide +kernel
theorem dL_781 : decode code 781 = .ok (.iconst 1, 1) := by decide +kernel
theorem dL_782 : decode code 782 = .ok (.iadd, 1) := by decide +kernel
theorem dL_783 : decode code 783 = .ok (.iaload, 1) := by decide +kernel
theorem dL_784 : decode code 784 = .ok (.aload_n 0, 1) := by decide +kernel
theorem dL_785 : decode code 785 = .ok (.iload_n 3, 1) := by decide +kernel
theorem dL_786 : decode code 786 = .ok (.iconst 2, 1) := by decide +kernel
theorem dL_787 : decode code 787 = .ok (.iadd, 1) := by decide +kernel
theorem dL_788 : decode code 788 = .ok (.iaload, 1) := by decide +kernel
theorem dL_789 : decode code 789 = .ok (.invokevirtual 88, 3) := by decide +kernel
theorem dL_792 : decode code 792 = .ok (.aload_n 2, 1) := by decide +kernel
theorem dL_793 : decode code 793 = .ok (.aload_n 0, 1) := by decide +kernel
theorem dL_794 : decode code 794 = .ok (.iload_n 3, 1) := by decide +kernel
theorem dL_795 : decode code 795 = .ok (.iconst 1, 1) := by decide +kernel
theorem dL_796 : decode code 796 = .ok (.iadd, 1) := by decide +kernel
theorem dL_797 : decode code 797 = .ok (.iaload, 1) := by decide +kernel
theorem dL_798 : decode code 798 = .ok (.aload_n 0, 1) := by decide +kernel
theorem dL_799 : decode code 799 = .ok (.iload_n 3, 1) := by decide +kernel
theorem dL_800 : decode code 800 = .ok (.iconst 2, 1) := by decide +kernel
theorem dL_801 : decode code 801 = .ok (.iadd, 1) := by decide +kernel
theorem dL_802 : decode code 802 = .ok (.iaload, 1) := by decide +kernel
theorem dL_803 : decode code 803 = .ok (.invokevirtual 91, 3) := by decide +kernel
theorem dL_806 : decode code 806 = .ok (.if_icmp .eq 656, 3) := by decide +kernel
theorem dL_809 : decode code 809 = .ok (.iconst 0, 1) := by decide +kernel
theorem dL_810 : decode code 810 = .ok (.ireturn, 1) := by decide +kernel
theorem dL_811 : decode code 811 = .ok (.aload_n 1, 1) := by decide +kernel
theorem dL_812 : decode code 812 = .ok (.aload_n 0, 1) := by decide +kernel
theorem dL_813 : decode code 813 = .ok (.iload_n 3, 1) := by decide +kernel
theorem dL_814 : decode code 814 = .ok (.iconst 1, 1) := by decide +kernel
theorem dL_815 : decode code 815 = .ok (.iadd, 1) := by decide +kernel
theorem dL_816 : decode code 816 = .ok (.iaload, 1) := by decide +kernel
theorem dL_817 : decode code 817 = .ok (.aload_n 0, 1) := by decide +kernel
theorem dL_818 : decode code 818 = .ok (.iload_n 3, 1) := by decide +kernel
theorem dL_819 : decode code 819 = .ok (.iconst 2, 1) := by decide +kernel
theorem dL_820 : decode code 820 = .ok (.iadd, 1) := by decide +kernel
theorem dL_821 : decode code 821 = .ok (.iaload, 1) := by decide +kernel
theorem dL_822 : decode code 822 = .ok (.invokevirtual 92, 3) := by decide +kernel
theorem dL_825 : decode code 825 = .ok (.aload_n 2, 1) := by decide +kernel
theorem dL_826 : decode code 826 = .ok (.aload_n 0, 1) := by decide +kernel
theorem dL_827 : decode code 827 = .ok (.iload_n 3, 1) := by decide +kernel
theorem dL_828 : decode code 828 = .ok (.iconst 1, 1) := by decide +kernel
theorem dL_829 : decode code 829 = .ok (.iadd, 1) := by decide +kernel
theorem dL_830 : decode code 830 = .ok (.iaload, 1) := by decide +kernel
theorem dL_831 : decode code 831 = .ok (.aload_n 0, 1) := by decide +kernel
theorem dL_832 : decode code 832 = .ok (.iload_n 3, 1) := by decide +kernel
theorem dL_833 : decode code 833 = .ok (.iconst 2, 1) := by decide +kernel
theorem dL_834 : decode code 834 = .ok (.iadd, 1) := by decide +kernel
theorem dL_835 : decode code 835 = .ok (.iaload, 1) := by decide +kernel
theorem dL_836 : decode code 836 = .ok (.invokevirtual 95, 3) := by decide +kernel
theorem dL_839 : decode code 839 = .ok (.if_icmp .eq 623, 3) := by decide +kernel
theorem dL_842 : decode code 842 = .ok (.iconst 0, 1) := by decide +kernel
theorem dL_843 : decode code 843 = .ok (.ireturn, 1) := by decide +kernel
theorem dL_844 : decode code 844 = .ok (.aload_n 1, 1) := by decide +kernel
theorem dL_845 : decode code 845 = .ok (.aload_n 0, 1) := by decide +kernel
theorem dL_846 : decode code 846 = .ok (.iload_n 3, 1) := by decide +kernel
theorem dL_847 : decode code 847 = .ok (.iconst 1, 1) := by decide +kernel
theorem dL_848 : decode code 848 = .ok (.iadd, 1) := by decide +kernel
theorem dL_849 : decode code 849 = .ok (.iaload, 1) := by decide +kernel
theorem dL_850 : decode code 850 = .ok (.aload_n 0, 1) := by decide +kernel
theorem dL_851 : decode code 851 = .ok (.iload_n 3, 1) := by decide +kernel
theorem dL_852 : decode code 852 = .ok (.iconst 2, 1) := by decide +kernel
theorem dL_853 : decode code 853 = .ok (.iadd, 1) := by decide +kernel
theorem dL_854 : decode code 854 = .ok (.iaload, 1) := by decide +kernel
theorem dL_855 : decode code 855 = .ok (.invokevirtual 96, 3) := by decide +kernel
theorem dL_858 : decode code 858 = .ok (.aload_n 2, 1) := by decide +kernel
theorem dL_859 : decode code 859 = .ok (.aload_n 0, 1) := by decide +kernel
theorem dL_860 : decode code 860 = .ok (.iload_n 3, 1) := by decide +kernel
theorem dL_861 : decode code 861 = .ok (.iconst 1, 1) := by decide +kernel
theorem dL_862 : decode code 862 = .ok (.iadd, 1) := by decide +kernel
theorem dL_863 : decode code 863 = .ok (.iaload, 1) := by decide +kernel
theorem dL_864 : decode code 864 = .ok (.aload_n 0, 1) := by decide +kernel
theorem dL_865 : decode code 865 = .ok (.iload_n 3, 1) := by decide +kernel
theorem dL_866 : decode code 866 = .ok (.iconst 2, 1) := by decide +kernel
theorem dL_867 : decode code 867 = .ok (.iadd, 1) := by decide +kernel
theorem dL_868 : decode code 868 = .ok (.iaload, 1) := by decide +kernel
theorem dL_869 : decode code 869 = .ok (.invokevirtual 99, 3) := by decide +kernel
theorem dL_872 : decode code 872 = .ok (.if_icmp .eq 590, 3) := by decide +kernel
theorem dL_875 : decode code 875 = .ok (.iconst 0, 1) := by decide +kernel
theorem dL_876 : decode code 876 = .ok (.ireturn, 1) := by decide +kernel
theorem dL_877 : decode code 877 = .ok (.aload_n 1, 1) := by decide +kernel
theorem dL_878 : decode code 878 = .ok (.aload_n 0, 1) := by decide +kernel
theorem dL_879 : decode code 879 = .ok (.iload_n 3, 1) := by decide +kernel
theorem dL_880 : decode code 880 = .ok (.iconst 1, 1) := by decide +kernel
theorem dL_881 : decode code 881 = .ok (.iadd, 1) := by decide +kernel
theorem dL_882 : decode code 882 = .ok (.iaload, 1) := by decide +kernel
theorem dL_883 : decode code 883 = .ok (.aload_n 0, 1) := by decide +kernel
theorem dL_884 : decode code 884 = .ok (.iload_n 3, 1) := by decide +kernel
theorem dL_885 : decode code 885 = .ok (.iconst 2, 1) := by decide +kernel
theorem dL_886 : decode code 886 = .ok (.iadd, 1) := by decide +kernel
theorem dL_887 : decode code 887 = .ok (.iaload, 1) := by decide +kernel
theorem dL_888 : decode code 888 = .ok (.aload_n 0, 1) := by decide +kernel
theorem dL_889 : decode code 889 = .ok (.iload_n 3, 1) := by decide +kernel
theorem dL_890 : decode code 890 = .ok (.iconst 3, 1) := by decide +kernel
theorem dL_891 : decode code 891 = .ok (.iadd, 1) := by decide +kernel
theorem dL_892 : decode code 892 = .ok (.iaload, 1) := by decide +kernel
theorem dL_893 : decode code 893 = .ok (.aload_n 0, 1) := by decide +kernel
theorem dL_894 : decode code 894 = .ok (.iload_n 3, 1) := by decide +kernel
theorem dL_895 : decode code 895 = .ok (.iconst 4, 1) := by decide +kernel
theorem dL_896 : decode code 896 = .ok (.iadd, 1) := by decide +kernel
theorem dL_897 : decode code 897 = .ok (.iaload, 1) := by decide +kernel
theorem dL_898 : decode code 898 = .ok (.invokevirtual 100, 3) := by decide +kernel
theorem dL_901 : decode code 901 = .ok (.aload_n 2, 1) := by decide +kernel
theorem dL_902 : decode code 902 = .ok (.aload_n 0, 1) := by decide +kernel
theorem dL_903 : decode code 903 = .ok (.iload_n 3, 1) := by decide +kernel
theorem dL_904 : decode code 904 = .ok (.iconst 1, 1) := by decide +kernel
theorem dL_905 : decode code 905 = .ok (.iadd, 1) := by decide +kernel
theorem dL_906 : decode code 906 = .ok (.iaload, 1) := by decide +kernel
theorem dL_907 : decode code 907 = .ok (.aload_n 0, 1) := by decide +kernel
theorem dL_908 : decode code 908 = .ok (.iload_n 3, 1) := by decide +kernel
theorem dL_909 : decode code 909 = .ok (.iconst 2, 1) := by decide +kernel
theorem dL_910 : decode code 910 = .ok (.iadd, 1) := by decide +kernel
theorem dL_911 : decode code 911 = .ok (.iaload, 1) := by decide +kernel
theorem dL_912 : decode code 912 = .ok (.aload_n 0, 1) := by decide +kernel
theorem dL_913 : decode code 913 = .ok (.iload_n 3, 1) := by decide +kernel
theorem dL_914 : decode code 914 = .ok (.iconst 3, 1) := by decide +kernel
theorem dL_915 : decode code 915 = .ok (.iadd, 1) := by decide +kernel
theorem dL_916 : decode code 916 = .ok (.iaload, 1) := by decide +kernel
theorem dL_917 : decode code 917 = .ok (.aload_n 0, 1) := by decide +kernel
theorem dL_918 : decode code 918 = .ok (.iload_n 3, 1) := by decide +kernel
theorem dL_919 : decode code 919 = .ok (.iconst 4, 1) := by decide +kernel
theorem dL_920 : decode code 920 = .ok (.iadd, 1) := by decide +kernel
theorem dL_921 : decode code 921 = .ok (.iaload, 1) := by decide +kernel
theorem dL_922 : decode code 922 = .ok (.invokevirtual 104, 3) := by decide +kernel
theorem dL_925 : decode code 925 = .ok (.if_icmp .eq 537, 3) := by decide +kernel
theorem dL_928 : decode code 928 = .ok (.iconst 0, 1) := by decide +kernel
theorem dL_929 : decode code 929 = .ok (.ireturn, 1) := by decide +kernel
theorem dL_930 : decode code 930 = .ok (.aload_n 1, 1) := by decide +kernel
theorem dL_931 : decode code 931 = .ok (.aload_n 0, 1) := by decide +kernel
theorem dL_932 : decode code 932 = .ok (.iload_n 3, 1) := by decide +kernel
theorem dL_933 : decode code 933 = .ok (.iconst 1, 1) := by decide +kernel
theorem dL_934 : decode code 934 = .ok (.iadd, 1) := by decide +kernel
theorem dL_935 : decode code 935 = .ok (.iaload, 1) := by decide +kernel
theorem dL_936 : decode code 936 = .ok (.aload_n 0, 1) := by decide +kernel
theorem dL_937 : decode code 937 = .ok (.iload_n 3, 1) := by decide +kernel
theorem dL_938 : decode code 938 = .ok (.iconst 2, 1) := by decide +kernel
theorem dL_939 : decode code 939 = .ok (.iadd, 1) := by decide +kernel
theorem dL_940 : decode code 940 = .ok (.iaload, 1) := by decide +kernel
theorem dL_941 : decode code 941 = .ok (.invokevirtual 105, 3) := by decide +kernel
theorem dL_944 : decode code 944 = .ok (.aload_n 2, 1) := by decide +kernel
theorem dL_945 : decode code 945 = .ok (.aload_n 0, 1) := by decide +kernel
