/-! ===== the law, calls 12 to 23 ===== -/
theorem d_law_693 : decode code 693 = .ok (.aload_n 1, 1) := by decide +kernel
theorem d_law_694 : decode code 694 = .ok (.aload_n 0, 1) := by decide +kernel
theorem d_law_695 : decode code 695 = .ok (.iload_n 3, 1) := by decide +kernel
theorem d_law_696 : decode code 696 = .ok (.iconst 1, 1) := by decide +kernel
theorem d_law_697 : decode code 697 = .ok (.iadd, 1) := by decide +kernel
theorem d_law_698 : decode code 698 = .ok (.iaload, 1) := by decide +kernel
theorem d_law_699 : decode code 699 = .ok (.aload_n 0, 1) := by decide +kernel
theorem d_law_700 : decode code 700 = .ok (.iload_n 3, 1) := by decide +kernel
theorem d_law_701 : decode code 701 = .ok (.iconst 2, 1) := by decide +kernel
theorem d_law_702 : decode code 702 = .ok (.iadd, 1) := by decide +kernel
theorem d_law_703 : decode code 703 = .ok (.iaload, 1) := by decide +kernel
theorem d_law_704 : decode code 704 = .ok (.invokevirtual 71, 3) := by decide +kernel
theorem d_law_707 : decode code 707 = .ok (.aload_n 2, 1) := by decide +kernel
theorem d_law_708 : decode code 708 = .ok (.aload_n 0, 1) := by decide +kernel
theorem d_law_709 : decode code 709 = .ok (.iload_n 3, 1) := by decide +kernel
theorem d_law_710 : decode code 710 = .ok (.iconst 1, 1) := by decide +kernel
theorem d_law_711 : decode code 711 = .ok (.iadd, 1) := by decide +kernel
theorem d_law_712 : decode code 712 = .ok (.iaload, 1) := by decide +kernel
theorem d_law_713 : decode code 713 = .ok (.aload_n 0, 1) := by decide +kernel
theorem d_law_714 : decode code 714 = .ok (.iload_n 3, 1) := by decide +kernel
theorem d_law_715 : decode code 715 = .ok (.iconst 2, 1) := by decide +kernel
theorem d_law_716 : decode code 716 = .ok (.iadd, 1) := by decide +kernel
theorem d_law_717 : decode code 717 = .ok (.iaload, 1) := by decide +kernel
theorem d_law_718 : decode code 718 = .ok (.invokevirtual 75, 3) := by decide +kernel
theorem d_law_721 : decode code 721 = .ok (.if_icmp .eq 1197, 3) := by decide +kernel
theorem d_law_724 : decode code 724 = .ok (.iconst 0, 1) := by decide +kernel
theorem d_law_725 : decode code 725 = .ok (.ireturn, 1) := by decide +kernel
theorem d_law_726 : decode code 726 = .ok (.aload_n 1, 1) := by decide +kernel
theorem d_law_727 : decode code 727 = .ok (.aload_n 0, 1) := by decide +kernel
theorem d_law_728 : decode code 728 = .ok (.iload_n 3, 1) := by decide +kernel
theorem d_law_729 : decode code 729 = .ok (.iconst 1, 1) := by decide +kernel
theorem d_law_730 : decode code 730 = .ok (.iadd, 1) := by decide +kernel
theorem d_law_731 : decode code 731 = .ok (.iaload, 1) := by decide +kernel
theorem d_law_732 : decode code 732 = .ok (.invokevirtual 76, 3) := by decide +kernel
theorem d_law_735 : decode code 735 = .ok (.aload_n 2, 1) := by decide +kernel
theorem d_law_736 : decode code 736 = .ok (.aload_n 0, 1) := by decide +kernel
theorem d_law_737 : decode code 737 = .ok (.iload_n 3, 1) := by decide +kernel
theorem d_law_738 : decode code 738 = .ok (.iconst 1, 1) := by decide +kernel
theorem d_law_739 : decode code 739 = .ok (.iadd, 1) := by decide +kernel
theorem d_law_740 : decode code 740 = .ok (.iaload, 1) := by decide +kernel
theorem d_law_741 : decode code 741 = .ok (.invokevirtual 79, 3) := by decide +kernel
theorem d_law_744 : decode code 744 = .ok (.if_icmp .eq 1174, 3) := by decide +kernel
theorem d_law_747 : decode code 747 = .ok (.iconst 0, 1) := by decide +kernel
theorem d_law_748 : decode code 748 = .ok (.ireturn, 1) := by decide +kernel
theorem d_law_749 : decode code 749 = .ok (.aload_n 1, 1) := by decide +kernel
theorem d_law_750 : decode code 750 = .ok (.aload_n 0, 1) := by decide +kernel
theorem d_law_751 : decode code 751 = .ok (.iload_n 3, 1) := by decide +kernel
theorem d_law_752 : decode code 752 = .ok (.iconst 1, 1) := by decide +kernel
theorem d_law_753 : decode code 753 = .ok (.iadd, 1) := by decide +kernel
theorem d_law_754 : decode code 754 = .ok (.iaload, 1) := by decide +kernel
theorem d_law_755 : decode code 755 = .ok (.aload_n 0, 1) := by decide +kernel
theorem d_law_756 : decode code 756 = .ok (.iload_n 3, 1) := by decide +kernel
theorem d_law_757 : decode code 757 = .ok (.iconst 2, 1) := by decide +kernel
theorem d_law_758 : decode code 758 = .ok (.iadd, 1) := by decide +kernel
theorem d_law_759 : decode code 759 = .ok (.iaload, 1) := by decide +kernel
theorem d_law_760 : decode code 760 = .ok (.invokevirtual 80, 3) := by decide +kernel
theorem d_law_763 : decode code 763 = .ok (.aload_n 2, 1) := by decide +kernel
theorem d_law_764 : decode code 764 = .ok (.aload_n 0, 1) := by decide +kernel
theorem d_law_765 : decode code 765 = .ok (.iload_n 3, 1) := by decide +kernel
theorem d_law_766 : decode code 766 = .ok (.iconst 1, 1) := by decide +kernel
theorem d_law_767 : decode code 767 = .ok (.iadd, 1) := by decide +kernel
theorem d_law_768 : decode code 768 = .ok (.iaload, 1) := by decide +kernel
theorem d_law_769 : decode code 769 = .ok (.aload_n 0, 1) := by decide +kernel
theorem d_law_770 : decode code 770 = .ok (.iload_n 3, 1) := by decide +kernel
theorem d_law_771 : decode code 771 = .ok (.iconst 2, 1) := by decide +kernel
theorem d_law_772 : decode code 772 = .ok (.iadd, 1) := by decide +kernel
theorem d_law_773 : decode code 773 = .ok (.iaload, 1) := by decide +kernel
theorem d_law_774 : decode code 774 = .ok (.invokevirtual 83, 3) := by decide +kernel
theorem d_law_777 : decode code 777 = .ok (.if_icmp .eq 1141, 3) := by decide +kernel
theorem d_law_780 : decode code 780 = .ok (.iconst 0, 1) := by decide +kernel
theorem d_law_781 : decode code 781 = .ok (.ireturn, 1) := by decide +kernel
theorem d_law_782 : decode code 782 = .ok (.aload_n 1, 1) := by decide +kernel
theorem d_law_783 : decode code 783 = .ok (.aload_n 0, 1) := by decide +kernel
theorem d_law_784 : decode code 784 = .ok (.iload_n 3, 1) := by decide +kernel
theorem d_law_785 : decode code 785 = .ok (.iconst 1, 1) := by decide +kernel
theorem d_law_786 : decode code 786 = .ok (.iadd, 1) := by decide +kernel
theorem d_law_787 : decode code 787 = .ok (.iaload, 1) := by decide +kernel
theorem d_law_788 : decode code 788 = .ok (.aload_n 0, 1) := by decide +kernel
theorem d_law_789 : decode code 789 = .ok (.iload_n 3, 1) := by decide +kernel
theorem d_law_790 : decode code 790 = .ok (.iconst 2, 1) := by decide +kernel
theorem d_law_791 : decode code 791 = .ok (.iadd, 1) := by decide +kernel
theorem d_law_792 : decode code 792 = .ok (.iaload, 1) := by decide +kernel
theorem d_law_793 : decode code 793 = .ok (.invokevirtual 84, 3) := by decide +kernel
theorem d_law_796 : decode code 796 = .ok (.aload_n 2, 1) := by decide +kernel
theorem d_law_797 : decode code 797 = .ok (.aload_n 0, 1) := by decide +kernel
theorem d_law_798 : decode code 798 = .ok (.iload_n 3, 1) := by decide +kernel
theorem d_law_799 : decode code 799 = .ok (.iconst 1, 1) := by decide +kernel
theorem d_law_800 : decode code 800 = .ok (.iadd, 1) := by decide +kernel
theorem d_law_801 : decode code 801 = .ok (.iaload, 1) := by decide +kernel
theorem d_law_802 : decode code 802 = .ok (.aload_n 0, 1) := by decide +kernel
theorem d_law_803 : decode code 803 = .ok (.iload_n 3, 1) := by decide +kernel
theorem d_law_804 : decode code 804 = .ok (.iconst 2, 1) := by decide +kernel
theorem d_law_805 : decode code 805 = .ok (.iadd, 1) := by decide +kernel
theorem d_law_806 : decode code 806 = .ok (.iaload, 1) := by decide +kernel
theorem d_law_807 : decode code 807 = .ok (.invokevirtual 87, 3) := by decide +kernel
theorem d_law_810 : decode code 810 = .ok (.if_icmp .eq 1108, 3) := by decide +kernel
theorem d_law_813 : decode code 813 = .ok (.iconst 0, 1) := by decide +kernel
theorem d_law_814 : decode code 814 = .ok (.ireturn, 1) := by decide +kernel
theorem d_law_815 : decode code 815 = .ok (.aload_n 1, 1) := by decide +kernel
theorem d_law_816 : decode code 816 = .ok (.aload_n 0, 1) := by decide +kernel
theorem d_law_817 : decode code 817 = .ok (.iload_n 3, 1) := by decide +kernel
theorem d_law_818 : decode code 818 = .ok (.iconst 1, 1) := by decide +kernel
theorem d_law_819 : decode code 819 = .ok (.iadd, 1) := by decide +kernel
theorem d_law_820 : decode code 820 = .ok (.iaload, 1) := by decide +kernel
theorem d_law_821 : decode code 821 = .ok (.aload_n 0, 1) := by decide +kernel
theorem d_law_822 : decode code 822 = .ok (.iload_n 3, 1) := by decide +kernel
theorem d_law_823 : decode code 823 = .ok (.iconst 2, 1) := by decide +kernel
theorem d_law_824 : decode code 824 = .ok (.iadd, 1) := by decide +kernel
theorem d_law_825 : decode code 825 = .ok (.iaload, 1) := by decide +kernel
theorem d_law_826 : decode code 826 = .ok (.invokevirtual 88, 3) := by decide +kernel
theorem d_law_829 : decode code 829 = .ok (.aload_n 2, 1) := by decide +kernel
theorem d_law_830 : decode code 830 = .ok (.aload_n 0, 1) := by decide +kernel
theorem d_law_831 : decode code 831 = .ok (.iload_n 3, 1) := by decide +kernel
theorem d_law_832 : decode code 832 = .ok (.iconst 1, 1) := by decide +kernel
theorem d_law_833 : decode code 833 = .ok (.iadd, 1) := by decide +kernel
theorem d_law_834 : decode code 834 = .ok (.iaload, 1) := by decide +kernel
theorem d_law_835 : decode code 835 = .ok (.aload_n 0, 1) := by decide +kernel
theorem d_law_836 : decode code 836 = .ok (.iload_n 3, 1) := by decide +kernel
theorem d_law_837 : decode code 837 = .ok (.iconst 2, 1) := by decide +kernel
theorem d_law_838 : decode code 838 = .ok (.iadd, 1) := by decide +kernel
theorem d_law_839 : decode code 839 = .ok (.iaload, 1) := by decide +kernel
theorem d_law_840 : decode code 840 = .ok (.invokevirtual 91, 3) := by decide +kernel
theorem d_law_843 : decode code 843 = .ok (.if_icmp .eq 1075, 3) := by decide +kernel
theorem d_law_846 : decode code 846 = .ok (.iconst 0, 1) := by decide +kernel
theorem d_law_847 : decode code 847 = .ok (.ireturn, 1) := by decide +kernel
theorem d_law_848 : decode code 848 = .ok (.aload_n 1, 1) := by decide +kernel
theorem d_law_849 : decode code 849 = .ok (.aload_n 0, 1) := by decide +kernel
theorem d_law_850 : decode code 850 = .ok (.iload_n 3, 1) := by decide +kernel
theorem d_law_851 : decode code 851 = .ok (.iconst 1, 1) := by decide +kernel
theorem d_law_852 : decode code 852 = .ok (.iadd, 1) := by decide +kernel
theorem d_law_853 : decode code 853 = .ok (.iaload, 1) := by decide +kernel
theorem d_law_854 : decode code 854 = .ok (.aload_n 0, 1) := by decide +kernel
theorem d_law_855 : decode code 855 = .ok (.iload_n 3, 1) := by decide +kernel
theorem d_law_856 : decode code 856 = .ok (.iconst 2, 1) := by decide +kernel
theorem d_law_857 : decode code 857 = .ok (.iadd, 1) := by decide +kernel
theorem d_law_858 : decode code 858 = .ok (.iaload, 1) := by decide +kernel
theorem d_law_859 : decode code 859 = .ok (.invokevirtual 92, 3) := by decide +kernel
theorem d_law_862 : decode code 862 = .ok (.aload_n 2, 1) := by decide +kernel
theorem d_law_863 : decode code 863 = .ok (.aload_n 0, 1) := by decide +kernel
theorem d_law_864 : decode code 864 = .ok (.iload_n 3, 1) := by decide +kernel
theorem d_law_865 : decode code 865 = .ok (.iconst 1, 1) := by decide +kernel
theorem d_law_866 : decode code 866 = .ok (.iadd, 1) := by decide +kernel
theorem d_law_867 : decode code 867 = .ok (.iaload, 1) := by decide +kernel
theorem d_law_868 : decode code 868 = .ok (.aload_n 0, 1) := by decide +kernel
theorem d_law_869 : decode code 869 = .ok (.iload_n 3, 1) := by decide +kernel
theorem d_law_870 : decode code 870 = .ok (.iconst 2, 1) := by decide +kernel
theorem d_law_871 : decode code 871 = .ok (.iadd, 1) := by decide +kernel
theorem d_law_872 : decode code 872 = .ok (.iaload, 1) := by decide +kernel
theorem d_law_873 : decode code 873 = .ok (.invokevirtual 95, 3) := by decide +kernel
theorem d_law_876 : decode code 876 = .ok (.if_icmp .eq 1042, 3) := by decide +kernel
theorem d_law_879 : decode code 879 = .ok (.iconst 0, 1) := by decide +kernel
theorem d_law_880 : decode code 880 = .ok (.ireturn, 1) := by decide +kernel
theorem d_law_881 : decode code 881 = .ok (.aload_n 1, 1) := by decide +kernel
theorem d_law_882 : decode code 882 = .ok (.aload_n 0, 1) := by decide +kernel
theorem d_law_883 : decode code 883 = .ok (.iload_n 3, 1) := by decide +kernel
theorem d_law_884 : decode code 884 = .ok (.iconst 1, 1) := by decide +kernel
theorem d_law_885 : decode code 885 = .ok (.iadd, 1) := by decide +kernel
theorem d_law_886 : decode code 886 = .ok (.iaload, 1) := by decide +kernel
theorem d_law_887 : decode code 887 = .ok (.aload_n 0, 1) := by decide +kernel
theorem d_law_888 : decode code 888 = .ok (.iload_n 3, 1) := by decide +kernel
theorem d_law_889 : decode code 889 = .ok (.iconst 2, 1) := by decide +kernel
theorem d_law_890 : decode code 890 = .ok (.iadd, 1) := by decide +kernel
theorem d_law_891 : decode code 891 = .ok (.iaload, 1) := by decide +kernel
theorem d_law_892 : decode code 892 = .ok (.invokevirtual 96, 3) := by decide +kernel
theorem d_law_895 : decode code 895 = .ok (.aload_n 2, 1) := by decide +kernel
theorem d_law_896 : decode code 896 = .ok (.aload_n 0, 1) := by decide +kernel
theorem d_law_897 : decode code 897 = .ok (.iload_n 3, 1) := by decide +kernel
theorem d_law_898 : decode code 898 = .ok (.iconst 1, 1) := by decide +kernel
theorem d_law_899 : decode code 899 = .ok (.iadd, 1) := by decide +kernel
theorem d_law_900 : decode code 900 = .ok (.iaload, 1) := by decide +kernel
theorem d_law_901 : decode code 901 = .ok (.aload_n 0, 1) := by decide +kernel
theorem d_law_902 : decode code 902 = .ok (.iload_n 3, 1) := by decide +kernel
theorem d_law_903 : decode code 903 = .ok (.iconst 2, 1) := by decide +kernel
theorem d_law_904 : decode code 904 = .ok (.iadd, 1) := by decide +kernel
theorem d_law_905 : decode code 905 = .ok (.iaload, 1) := by decide +kernel
theorem d_law_906 : decode code 906 = .ok (.invokevirtual 99, 3) := by decide +kernel
theorem d_law_909 : decode code 909 = .ok (.if_icmp .eq 1009, 3) := by decide +kernel
theorem d_law_912 : decode code 912 = .ok (.iconst 0, 1) := by decide +kernel
theorem d_law_913 : decode code 913 = .ok (.ireturn, 1) := by decide +kernel
theorem d_law_914 : decode code 914 = .ok (.aload_n 1, 1) := by decide +kernel
theorem d_law_915 : decode code 915 = .ok (.aload_n 0, 1) := by decide +kernel
theorem d_law_916 : decode code 916 = .ok (.iload_n 3, 1) := by decide +kernel
theorem d_law_917 : decode code 917 = .ok (.iconst 1, 1) := by decide +kernel
theorem d_law_918 : decode code 918 = .ok (.iadd, 1) := by decide +kernel
theorem d_law_919 : decode code 919 = .ok (.iaload, 1) := by decide +kernel
theorem d_law_920 : decode code 920 = .ok (.aload_n 0, 1) := by decide +kernel
theorem d_law_921 : decode code 921 = .ok (.iload_n 3, 1) := by decide +kernel
theorem d_law_922 : decode code 922 = .ok (.iconst 2, 1) := by decide +kernel
theorem d_law_923 : decode code 923 = .ok (.iadd, 1) := by decide +kernel
theorem d_law_924 : decode code 924 = .ok (.iaload, 1) := by decide +kernel
theorem d_law_925 : decode code 925 = .ok (.invokevirtual 100, 3) := by decide +kernel
theorem d_law_928 : decode code 928 = .ok (.aload_n 2, 1) := by decide +kernel
theorem d_law_929 : decode code 929 = .ok (.aload_n 0, 1) := by decide +kernel
theorem d_law_930 : decode code 930 = .ok (.iload_n 3, 1) := by decide +kernel
theorem d_law_931 : decode code 931 = .ok (.iconst 1, 1) := by decide +kernel
theorem d_law_932 : decode code 932 = .ok (.iadd, 1) := by decide +kernel
theorem d_law_933 : decode code 933 = .ok (.iaload, 1) := by decide +kernel
theorem d_law_934 : decode code 934 = .ok (.aload_n 0, 1) := by decide +kernel
theorem d_law_935 : decode code 935 = .ok (.iload_n 3, 1) := by decide +kernel
theorem d_law_936 : decode code 936 = .ok (.iconst 2, 1) := by decide +kernel
theorem d_law_937 : decode code 937 = .ok (.iadd, 1) := by decide +kernel
theorem d_law_938 : decode code 938 = .ok (.iaload, 1) := by decide +kernel
theorem d_law_939 : decode code 939 = .ok (.invokevirtual 103, 3) := by decide +kernel
theorem d_law_942 : decode code 942 = .ok (.if_icmp .eq 976, 3) := by decide +kernel
theorem d_law_945 : decode code 945 = .ok (.iconst 0, 1) := by decide +kernel
theorem d_law_946 : decode code 946 = .ok (.ireturn, 1) := by decide +kernel
theorem d_law_947 : decode code 947 = .ok (.aload_n 1, 1) := by decide +kernel
theorem d_law_948 : decode code 948 = .ok (.aload_n 0, 1) := by decide +kernel
theorem d_law_949 : decode code 949 = .ok (.iload_n 3, 1) := by decide +kernel
theorem d_law_950 : decode code 950 = .ok (.iconst 1, 1) := by decide +kernel
theorem d_law_951 : decode code 951 = .ok (.iadd, 1) := by decide +kernel
theorem d_law_952 : decode code 952 = .ok (.iaload, 1) := by decide +kernel
theorem d_law_953 : decode code 953 = .ok (.aload_n 0, 1) := by decide +kernel
theorem d_law_954 : decode code 954 = .ok (.iload_n 3, 1) := by decide +kernel
theorem d_law_955 : decode code 955 = .ok (.iconst 2, 1) := by decide +kernel
theorem d_law_956 : decode code 956 = .ok (.iadd, 1) := by decide +kernel
theorem d_law_957 : decode code 957 = .ok (.iaload, 1) := by decide +kernel
theorem d_law_958 : decode code 958 = .ok (.invokevirtual 104, 3) := by decide +kernel
theorem d_law_961 : decode code 961 = .ok (.aload_n 2, 1) := by decide +kernel
theorem d_law_962 : decode code 962 = .ok (.aload_n 0, 1) := by decide +kernel
theorem d_law_963 : decode code 963 = .ok (.iload_n 3, 1) := by decide +kernel
theorem d_law_964 : decode code 964 = .ok (.iconst 1, 1) := by decide +kernel
theorem d_law_965 : decode code 965 = .ok (.iadd, 1) := by decide +kernel
theorem d_law_966 : decode code 966 = .ok (.iaload, 1) := by decide +kernel
theorem d_law_967 : decode code 967 = .ok (.aload_n 0, 1) := by decide +kernel
theorem d_law_968 : decode code 968 = .ok (.iload_n 3, 1) := by decide +kernel
theorem d_law_969 : decode code 969 = .ok (.iconst 2, 1) := by decide +kernel
theorem d_law_970 : decode code 970 = .ok (.iadd, 1) := by decide +kernel
theorem d_law_971 : decode code 971 = .ok (.iaload, 1) := by decide +kernel
theorem d_law_972 : decode code 972 = .ok (.invokevirtual 107, 3) := by decide +kernel
theorem d_law_975 : decode code 975 = .ok (.if_icmp .eq 943, 3) := by decide +kernel
theorem d_law_978 : decode code 978 = .ok (.iconst 0, 1) := by decide +kernel
theorem d_law_979 : decode code 979 = .ok (.ireturn, 1) := by decide +kernel
theorem d_law_980 : decode code 980 = .ok (.aload_n 1, 1) := by decide +kernel
theorem d_law_981 : decode code 981 = .ok (.aload_n 0, 1) := by decide +kernel
theorem d_law_982 : decode code 982 = .ok (.iload_n 3, 1) := by decide +kernel
theorem d_law_983 : decode code 983 = .ok (.iconst 1, 1) := by decide +kernel
theorem d_law_984 : decode code 984 = .ok (.iadd, 1) := by decide +kernel
theorem d_law_985 : decode code 985 = .ok (.iaload, 1) := by decide +kernel
theorem d_law_986 : decode code 986 = .ok (.aload_n 0, 1) := by decide +kernel
theorem d_law_987 : decode code 987 = .ok (.iload_n 3, 1) := by decide +kernel
theorem d_law_988 : decode code 988 = .ok (.iconst 2, 1) := by decide +kernel
theorem d_law_989 : decode code 989 = .ok (.iadd, 1) := by decide +kernel
theorem d_law_990 : decode code 990 = .ok (.iaload, 1) := by decide +kernel
theorem d_law_991 : decode code 991 = .ok (.invokevirtual 108, 3) := by decide +kernel
theorem d_law_994 : decode code 994 = .ok (.aload_n 2, 1) := by decide +kernel
theorem d_law_995 : decode code 995 = .ok (.aload_n 0, 1) := by decide +kernel
theorem d_law_996 : decode code 996 = .ok (.iload_n 3, 1) := by decide +kernel
theorem d_law_997 : decode code 997 = .ok (.iconst 1, 1) := by decide +kernel
theorem d_law_998 : decode code 998 = .ok (.iadd, 1) := by decide +kernel
theorem d_law_999 : decode code 999 = .ok (.iaload, 1) := by decide +kernel
theorem d_law_1000 : decode code 1000 = .ok (.aload_n 0, 1) := by decide +kernel
theorem d_law_1001 : decode code 1001 = .ok (.iload_n 3, 1) := by decide +kernel
theorem d_law_1002 : decode code 1002 = .ok (.iconst 2, 1) := by decide +kernel
theorem d_law_1003 : decode code 1003 = .ok (.iadd, 1) := by decide +kernel
theorem d_law_1004 : decode code 1004 = .ok (.iaload, 1) := by decide +kernel
theorem d_law_1005 : decode code 1005 = .ok (.invokevirtual 112, 3) := by decide +kernel
theorem d_law_1008 : decode code 1008 = .ok (.if_icmp .eq 910, 3) := by decide +kernel
theorem d_law_1011 : decode code 1011 = .ok (.iconst 0, 1) := by decide +kernel
theorem d_law_1012 : decode code 1012 = .ok (.ireturn, 1) := by decide +kernel
theorem d_law_1013 : decode code 1013 = .ok (.aload_n 1, 1) := by decide +kernel
theorem d_law_1014 : decode code 1014 = .ok (.aload_n 0, 1) := by decide +kernel
theorem d_law_1015 : decode code 1015 = .ok (.iload_n 3, 1) := by decide +kernel
theorem d_law_1016 : decode code 1016 = .ok (.iconst 1, 1) := by decide +kernel
theorem d_law_1017 : decode code 1017 = .ok (.iadd, 1) := by decide +kernel
theorem d_law_1018 : decode code 1018 = .ok (.iaload, 1) := by decide +kernel
theorem d_law_1019 : decode code 1019 = .ok (.invokevirtual 113, 3) := by decide +kernel
theorem d_law_1022 : decode code 1022 = .ok (.aload_n 2, 1) := by decide +kernel
theorem d_law_1023 : decode code 1023 = .ok (.aload_n 0, 1) := by decide +kernel
theorem d_law_1024 : decode code 1024 = .ok (.iload_n 3, 1) := by decide +kernel
theorem d_law_1025 : decode code 1025 = .ok (.iconst 1, 1) := by decide +kernel
theorem d_law_1026 : decode code 1026 = .ok (.iadd, 1) := by decide +kernel
theorem d_law_1027 : decode code 1027 = .ok (.iaload, 1) := by decide +kernel
theorem d_law_1028 : decode code 1028 = .ok (.invokevirtual 116, 3) := by decide +kernel
theorem d_law_1031 : decode code 1031 = .ok (.if_icmp .eq 887, 3) := by decide +kernel
theorem d_law_1034 : decode code 1034 = .ok (.iconst 0, 1) := by decide +kernel
theorem d_law_1035 : decode code 1035 = .ok (.ireturn, 1) := by decide +kernel
theorem d_law_1036 : decode code 1036 = .ok (.aload_n 1, 1) := by decide +kernel
theorem d_law_1037 : decode code 1037 = .ok (.aload_n 0, 1) := by decide +kernel
theorem d_law_1038 : decode code 1038 = .ok (.iload_n 3, 1) := by decide +kernel
theorem d_law_1039 : decode code 1039 = .ok (.iconst 1, 1) := by decide +kernel
theorem d_law_1040 : decode code 1040 = .ok (.iadd, 1) := by decide +kernel
theorem d_law_1041 : decode code 1041 = .ok (.iaload, 1) := by decide +kernel
theorem d_law_1042 : decode code 1042 = .ok (.aload_n 0, 1) := by decide +kernel
theorem d_law_1043 : decode code 1043 = .ok (.iload_n 3, 1) := by decide +kernel
theorem d_law_1044 : decode code 1044 = .ok (.iconst 2, 1) := by decide +kernel
theorem d_law_1045 : decode code 1045 = .ok (.iadd, 1) := by decide +kernel
theorem d_law_1046 : decode code 1046 = .ok (.iaload, 1) := by decide +kernel
theorem d_law_1047 : decode code 1047 = .ok (.ifCond .eq 7, 3) := by decide +kernel
theorem d_law_1050 : decode code 1050 = .ok (.iconst 1, 1) := by decide +kernel
theorem d_law_1051 : decode code 1051 = .ok (.goto 4, 3) := by decide +kernel
theorem d_law_1054 : decode code 1054 = .ok (.iconst 0, 1) := by decide +kernel
theorem d_law_1055 : decode code 1055 = .ok (.invokevirtual 117, 3) := by decide +kernel
theorem d_law_1058 : decode code 1058 = .ok (.aload_n 2, 1) := by decide +kernel
theorem d_law_1059 : decode code 1059 = .ok (.aload_n 0, 1) := by decide +kernel
theorem d_law_1060 : decode code 1060 = .ok (.iload_n 3, 1) := by decide +kernel
theorem d_law_1061 : decode code 1061 = .ok (.iconst 1, 1) := by decide +kernel
theorem d_law_1062 : decode code 1062 = .ok (.iadd, 1) := by decide +kernel
theorem d_law_1063 : decode code 1063 = .ok (.iaload, 1) := by decide +kernel
theorem d_law_1064 : decode code 1064 = .ok (.aload_n 0, 1) := by decide +kernel
theorem d_law_1065 : decode code 1065 = .ok (.iload_n 3, 1) := by decide +kernel
theorem d_law_1066 : decode code 1066 = .ok (.iconst 2, 1) := by decide +kernel
theorem d_law_1067 : decode code 1067 = .ok (.iadd, 1) := by decide +kernel
theorem d_law_1068 : decode code 1068 = .ok (.iaload, 1) := by decide +kernel
theorem d_law_1069 : decode code 1069 = .ok (.ifCond .eq 7, 3) := by decide +kernel
theorem d_law_1072 : decode code 1072 = .ok (.iconst 1, 1) := by decide +kernel
theorem d_law_1073 : decode code 1073 = .ok (.goto 4, 3) := by decide +kernel
theorem d_law_1076 : decode code 1076 = .ok (.iconst 0, 1) := by decide +kernel
theorem d_law_1077 : decode code 1077 = .ok (.invokevirtual 121, 3) := by decide +kernel
theorem d_law_1080 : decode code 1080 = .ok (.if_icmp .eq 838, 3) := by decide +kernel
theorem d_law_1083 : decode code 1083 = .ok (.iconst 0, 1) := by decide +kernel
theorem d_law_1084 : decode code 1084 = .ok (.ireturn, 1) := by decide +kernel
section LAWC
variable {p : Program} {l : Launch} {e : Env} {s : State} {m : MethodId} {below : List Frame} {meth : Method} {c : Code} {b L : Nat} {xs : Nat → Int32} {G : Gm} {aP : Nat}
theorem law_12 (C : LCx p s m meth c b L xs G aP) (hL : L ≤ 3072) {i : Nat} (hi : i + 6 ≤ L) {hc hm : Hp} (J : JJ (pY G aP) (mY G (aP + 184)) hc aP hm (aP + 184) kw0) (nx : ∀ hc hm, JJ (pY G aP) (mY G (aP + 184)) hc aP hm (aP + 184) kw0 → LW p l e s m below meth c b G aP 1918 (lvL b aP i) [] hc hm) : LW p l e s m below meth c b G aP 693 (lvL b aP i) [] hc hm := by
  obtain ⟨v, hc1, hm1, e1, e2, J1⟩ := so_rule J (xs (i + 1)) (xs (i + 2))
  refine lw_aload C (pc := 693) (q := 2) d_law_693 rfl rfl ?_
  refine lw_cell C (i := i) (k := 1) (pc := 694) hL hi (by decide) d_law_694 d_law_695 d_law_696 (by decide) d_law_697 d_law_698 ?_
  refine lw_cell C (i := i) (k := 2) (pc := 699) hL hi (by decide) d_law_699 d_law_700 d_law_701 (by decide) d_law_702 d_law_703 ?_
  refine lw_callC C (pc := 704) (K' := K_LP_rule) (n' := 2) (As := [.int (xs (i + 1)), .int (xs (i + 2))]) (st := []) okV_LP_rule rfl (ok_LP_rule (pY G aP) aP (xs (i + 1)) (xs (i + 2)) hc (oP G aP)) e1 w4_176 d_law_704 rfl (by decide) rfl (Nat.le_of_ble_eq_true rfl) ?_
  show LW p l e s m below meth c b G aP 707 (lvL b aP i) [.int v] hc1 hm
  refine lw_aload C (pc := 707) (q := 3) d_law_707 rfl rfl ?_
  refine lw_cell C (i := i) (k := 1) (pc := 708) hL hi (by decide) d_law_708 d_law_709 d_law_710 (by decide) d_law_711 d_law_712 ?_
  refine lw_cell C (i := i) (k := 2) (pc := 713) hL hi (by decide) d_law_713 d_law_714 d_law_715 (by decide) d_law_716 d_law_717 ?_
  refine lw_callM C (pc := 718) (K' := K_M_rule) (n' := 2) (As := [.int (xs (i + 1)), .int (xs (i + 2))]) (st := [.int v]) okV_M_rule rfl (ok_M_rule (mY G (aP + 184)) (aP + 184) (xs (i + 1)) (xs (i + 2)) hm (M_isO G (aP + 184))) e2 w9_20 d_law_718 rfl (by decide) rfl (Nat.le_of_ble_eq_true rfl) ?_
  show LW p l e s m below meth c b G aP 721 (lvL b aP i) [.int v, .int v] hc1 hm1
  exact lw_icmp_eq C (pc := 721) (tgt := 1918) d_law_721 (by decide) (nx _ _ J1)
theorem law_13 (C : LCx p s m meth c b L xs G aP) (hL : L ≤ 3072) {i : Nat} (hi : i + 6 ≤ L) {hc hm : Hp} (J : JJ (pY G aP) (mY G (aP + 184)) hc aP hm (aP + 184) kw0) (nx : ∀ hc hm, JJ (pY G aP) (mY G (aP + 184)) hc aP hm (aP + 184) kw0 → LW p l e s m below meth c b G aP 1918 (lvL b aP i) [] hc hm) : LW p l e s m below meth c b G aP 726 (lvL b aP i) [] hc hm := by
  obtain ⟨v, hc1, hm1, e1, e2, J1⟩ := so_odd J (xs (i + 1))
  refine lw_aload C (pc := 726) (q := 2) d_law_726 rfl rfl ?_
  refine lw_cell C (i := i) (k := 1) (pc := 727) hL hi (by decide) d_law_727 d_law_728 d_law_729 (by decide) d_law_730 d_law_731 ?_
  refine lw_callC C (pc := 732) (K' := K_LP_odd) (n' := 2) (As := [.int (xs (i + 1))]) (st := []) okV_LP_odd rfl (ok_LP_odd (pY G aP) aP (xs (i + 1)) hc (oP G aP)) e1 w4_187 d_law_732 rfl (by decide) rfl (Nat.le_of_ble_eq_true rfl) ?_
  show LW p l e s m below meth c b G aP 735 (lvL b aP i) [.int v] hc1 hm
  refine lw_aload C (pc := 735) (q := 3) d_law_735 rfl rfl ?_
  refine lw_cell C (i := i) (k := 1) (pc := 736) hL hi (by decide) d_law_736 d_law_737 d_law_738 (by decide) d_law_739 d_law_740 ?_
  refine lw_callM C (pc := 741) (K' := K_M_odd) (n' := 2) (As := [.int (xs (i + 1))]) (st := [.int v]) okV_M_odd rfl (ok_M_odd (mY G (aP + 184)) (aP + 184) (xs (i + 1)) hm (M_isO G (aP + 184))) e2 w9_32 d_law_741 rfl (by decide) rfl (Nat.le_of_ble_eq_true rfl) ?_
  show LW p l e s m below meth c b G aP 744 (lvL b aP i) [.int v, .int v] hc1 hm1
  exact lw_icmp_eq C (pc := 744) (tgt := 1918) d_law_744 (by decide) (nx _ _ J1)
theorem law_14 (C : LCx p s m meth c b L xs G aP) (hL : L ≤ 3072) {i : Nat} (hi : i + 6 ≤ L) {hc hm : Hp} (J : JJ (pY G aP) (mY G (aP + 184)) hc aP hm (aP + 184) kw0) (nx : ∀ hc hm, JJ (pY G aP) (mY G (aP + 184)) hc aP hm (aP + 184) kw0 → LW p l e s m below meth c b G aP 1918 (lvL b aP i) [] hc hm) : LW p l e s m below meth c b G aP 749 (lvL b aP i) [] hc hm := by
  obtain ⟨v, hc1, hm1, e1, e2, J1⟩ := so_book J (xs (i + 1)) (xs (i + 2))
  refine lw_aload C (pc := 749) (q := 2) d_law_749 rfl rfl ?_
  refine lw_cell C (i := i) (k := 1) (pc := 750) hL hi (by decide) d_law_750 d_law_751 d_law_752 (by decide) d_law_753 d_law_754 ?_
  refine lw_cell C (i := i) (k := 2) (pc := 755) hL hi (by decide) d_law_755 d_law_756 d_law_757 (by decide) d_law_758 d_law_759 ?_
  refine lw_callC C (pc := 760) (K' := K_LP_book) (n' := 2) (As := [.int (xs (i + 1)), .int (xs (i + 2))]) (st := []) okV_LP_book rfl (ok_LP_book (pY G aP) aP (xs (i + 1)) (xs (i + 2)) hc (oP G aP)) e1 w4_195 d_law_760 rfl (by decide) rfl (Nat.le_of_ble_eq_true rfl) ?_
  show LW p l e s m below meth c b G aP 763 (lvL b aP i) [.int v] hc1 hm
  refine lw_aload C (pc := 763) (q := 3) d_law_763 rfl rfl ?_
  refine lw_cell C (i := i) (k := 1) (pc := 764) hL hi (by decide) d_law_764 d_law_765 d_law_766 (by decide) d_law_767 d_law_768 ?_
  refine lw_cell C (i := i) (k := 2) (pc := 769) hL hi (by decide) d_law_769 d_law_770 d_law_771 (by decide) d_law_772 d_law_773 ?_
  refine lw_callM C (pc := 774) (K' := K_M_book) (n' := 2) (As := [.int (xs (i + 1)), .int (xs (i + 2))]) (st := [.int v]) okV_M_book rfl (ok_M_book (mY G (aP + 184)) (aP + 184) (xs (i + 1)) (xs (i + 2)) hm (M_isO G (aP + 184))) e2 w9_36 d_law_774 rfl (by decide) rfl (Nat.le_of_ble_eq_true rfl) ?_
  show LW p l e s m below meth c b G aP 777 (lvL b aP i) [.int v, .int v] hc1 hm1
  exact lw_icmp_eq C (pc := 777) (tgt := 1918) d_law_777 (by decide) (nx _ _ J1)
theorem law_15 (C : LCx p s m meth c b L xs G aP) (hL : L ≤ 3072) {i : Nat} (hi : i + 6 ≤ L) {hc hm : Hp} (J : JJ (pY G aP) (mY G (aP + 184)) hc aP hm (aP + 184) kw0) (nx : ∀ hc hm, JJ (pY G aP) (mY G (aP + 184)) hc aP hm (aP + 184) kw0 → LW p l e s m below meth c b G aP 1918 (lvL b aP i) [] hc hm) : LW p l e s m below meth c b G aP 782 (lvL b aP i) [] hc hm := by
  obtain ⟨v, hc1, hm1, e1, e2, J1⟩ := so_page J (xs (i + 1)) (xs (i + 2))
  refine lw_aload C (pc := 782) (q := 2) d_law_782 rfl rfl ?_
  refine lw_cell C (i := i) (k := 1) (pc := 783) hL hi (by decide) d_law_783 d_law_784 d_law_785 (by decide) d_law_786 d_law_787 ?_
  refine lw_cell C (i := i) (k := 2) (pc := 788) hL hi (by decide) d_law_788 d_law_789 d_law_790 (by decide) d_law_791 d_law_792 ?_
  refine lw_callC C (pc := 793) (K' := K_LP_page) (n' := 2) (As := [.int (xs (i + 1)), .int (xs (i + 2))]) (st := []) okV_LP_page rfl (ok_LP_page (pY G aP) aP (xs (i + 1)) (xs (i + 2)) hc (oP G aP)) e1 w4_210 d_law_793 rfl (by decide) rfl (Nat.le_of_ble_eq_true rfl) ?_
  show LW p l e s m below meth c b G aP 796 (lvL b aP i) [.int v] hc1 hm
  refine lw_aload C (pc := 796) (q := 3) d_law_796 rfl rfl ?_
  refine lw_cell C (i := i) (k := 1) (pc := 797) hL hi (by decide) d_law_797 d_law_798 d_law_799 (by decide) d_law_800 d_law_801 ?_
  refine lw_cell C (i := i) (k := 2) (pc := 802) hL hi (by decide) d_law_802 d_law_803 d_law_804 (by decide) d_law_805 d_law_806 ?_
  refine lw_callM C (pc := 807) (K' := K_M_page) (n' := 2) (As := [.int (xs (i + 1)), .int (xs (i + 2))]) (st := [.int v]) okV_M_page rfl (ok_M_page (mY G (aP + 184)) (aP + 184) (xs (i + 1)) (xs (i + 2)) hm (M_isO G (aP + 184))) e2 w9_53 d_law_807 rfl (by decide) rfl (Nat.le_of_ble_eq_true rfl) ?_
  show LW p l e s m below meth c b G aP 810 (lvL b aP i) [.int v, .int v] hc1 hm1
  exact lw_icmp_eq C (pc := 810) (tgt := 1918) d_law_810 (by decide) (nx _ _ J1)
theorem law_16 (C : LCx p s m meth c b L xs G aP) (hL : L ≤ 3072) {i : Nat} (hi : i + 6 ≤ L) {hc hm : Hp} (J : JJ (pY G aP) (mY G (aP + 184)) hc aP hm (aP + 184) kw0) (nx : ∀ hc hm, JJ (pY G aP) (mY G (aP + 184)) hc aP hm (aP + 184) kw0 → LW p l e s m below meth c b G aP 1918 (lvL b aP i) [] hc hm) : LW p l e s m below meth c b G aP 815 (lvL b aP i) [] hc hm := by
  obtain ⟨v, hc1, hm1, e1, e2, J1⟩ := so_finale J (xs (i + 1)) (xs (i + 2))
  refine lw_aload C (pc := 815) (q := 2) d_law_815 rfl rfl ?_
  refine lw_cell C (i := i) (k := 1) (pc := 816) hL hi (by decide) d_law_816 d_law_817 d_law_818 (by decide) d_law_819 d_law_820 ?_
  refine lw_cell C (i := i) (k := 2) (pc := 821) hL hi (by decide) d_law_821 d_law_822 d_law_823 (by decide) d_law_824 d_law_825 ?_
  refine lw_callC C (pc := 826) (K' := K_LP_finale) (n' := 2) (As := [.int (xs (i + 1)), .int (xs (i + 2))]) (st := []) okV_LP_finale rfl (ok_LP_finale (pY G aP) aP (xs (i + 1)) (xs (i + 2)) hc (oP G aP)) e1 w4_218 d_law_826 rfl (by decide) rfl (Nat.le_of_ble_eq_true rfl) ?_
  show LW p l e s m below meth c b G aP 829 (lvL b aP i) [.int v] hc1 hm
  refine lw_aload C (pc := 829) (q := 3) d_law_829 rfl rfl ?_
  refine lw_cell C (i := i) (k := 1) (pc := 830) hL hi (by decide) d_law_830 d_law_831 d_law_832 (by decide) d_law_833 d_law_834 ?_
  refine lw_cell C (i := i) (k := 2) (pc := 835) hL hi (by decide) d_law_835 d_law_836 d_law_837 (by decide) d_law_838 d_law_839 ?_
  refine lw_callM C (pc := 840) (K' := K_M_finale) (n' := 2) (As := [.int (xs (i + 1)), .int (xs (i + 2))]) (st := [.int v]) okV_M_finale rfl (ok_M_finale (mY G (aP + 184)) (aP + 184) (xs (i + 1)) (xs (i + 2)) hm (M_isO G (aP + 184))) e2 w9_57 d_law_840 rfl (by decide) rfl (Nat.le_of_ble_eq_true rfl) ?_
  show LW p l e s m below meth c b G aP 843 (lvL b aP i) [.int v, .int v] hc1 hm1
  exact lw_icmp_eq C (pc := 843) (tgt := 1918) d_law_843 (by decide) (nx _ _ J1)
theorem law_17 (C : LCx p s m meth c b L xs G aP) (hL : L ≤ 3072) {i : Nat} (hi : i + 6 ≤ L) {hc hm : Hp} (J : JJ (pY G aP) (mY G (aP + 184)) hc aP hm (aP + 184) kw0) (nx : ∀ hc hm, JJ (pY G aP) (mY G (aP + 184)) hc aP hm (aP + 184) kw0 → LW p l e s m below meth c b G aP 1918 (lvL b aP i) [] hc hm) : LW p l e s m below meth c b G aP 848 (lvL b aP i) [] hc hm := by
  obtain ⟨v, hc1, hm1, e1, e2, J1⟩ := so_hint J (xs (i + 1)) (xs (i + 2))
  refine lw_aload C (pc := 848) (q := 2) d_law_848 rfl rfl ?_
  refine lw_cell C (i := i) (k := 1) (pc := 849) hL hi (by decide) d_law_849 d_law_850 d_law_851 (by decide) d_law_852 d_law_853 ?_
  refine lw_cell C (i := i) (k := 2) (pc := 854) hL hi (by decide) d_law_854 d_law_855 d_law_856 (by decide) d_law_857 d_law_858 ?_
  refine lw_callC C (pc := 859) (K' := K_LP_hint) (n' := 1) (As := [.int (xs (i + 1)), .int (xs (i + 2))]) (st := []) okV_LP_hint rfl (ok_LP_hint (pY G aP) aP (xs (i + 1)) (xs (i + 2)) hc (oP G aP)) e1 w4_231 d_law_859 rfl (by decide) rfl (Nat.le_of_ble_eq_true rfl) ?_
  show LW p l e s m below meth c b G aP 862 (lvL b aP i) [.int v] hc1 hm
  refine lw_aload C (pc := 862) (q := 3) d_law_862 rfl rfl ?_
  refine lw_cell C (i := i) (k := 1) (pc := 863) hL hi (by decide) d_law_863 d_law_864 d_law_865 (by decide) d_law_866 d_law_867 ?_
  refine lw_cell C (i := i) (k := 2) (pc := 868) hL hi (by decide) d_law_868 d_law_869 d_law_870 (by decide) d_law_871 d_law_872 ?_
  refine lw_callM C (pc := 873) (K' := K_M_hint) (n' := 1) (As := [.int (xs (i + 1)), .int (xs (i + 2))]) (st := [.int v]) okV_M_hint rfl (ok_M_hint (mY G (aP + 184)) (aP + 184) (xs (i + 1)) (xs (i + 2)) hm (M_isO G (aP + 184))) e2 w9_65 d_law_873 rfl (by decide) rfl (Nat.le_of_ble_eq_true rfl) ?_
  show LW p l e s m below meth c b G aP 876 (lvL b aP i) [.int v, .int v] hc1 hm1
  exact lw_icmp_eq C (pc := 876) (tgt := 1918) d_law_876 (by decide) (nx _ _ J1)
theorem law_18 (C : LCx p s m meth c b L xs G aP) (hL : L ≤ 3072) {i : Nat} (hi : i + 6 ≤ L) {hc hm : Hp} (J : JJ (pY G aP) (mY G (aP + 184)) hc aP hm (aP + 184) kw0) (nx : ∀ hc hm, JJ (pY G aP) (mY G (aP + 184)) hc aP hm (aP + 184) kw0 → LW p l e s m below meth c b G aP 1918 (lvL b aP i) [] hc hm) : LW p l e s m below meth c b G aP 881 (lvL b aP i) [] hc hm := by
  obtain ⟨v, hc1, hm1, e1, e2, J1⟩ := so_offer J (xs (i + 1)) (xs (i + 2))
  refine lw_aload C (pc := 881) (q := 2) d_law_881 rfl rfl ?_
  refine lw_cell C (i := i) (k := 1) (pc := 882) hL hi (by decide) d_law_882 d_law_883 d_law_884 (by decide) d_law_885 d_law_886 ?_
  refine lw_cell C (i := i) (k := 2) (pc := 887) hL hi (by decide) d_law_887 d_law_888 d_law_889 (by decide) d_law_890 d_law_891 ?_
  refine lw_callC C (pc := 892) (K' := K_LP_offer) (n' := 2) (As := [.int (xs (i + 1)), .int (xs (i + 2))]) (st := []) okV_LP_offer rfl (ok_LP_offer (pY G aP) aP (xs (i + 1)) (xs (i + 2)) hc (oP G aP)) e1 w4_239 d_law_892 rfl (by decide) rfl (Nat.le_of_ble_eq_true rfl) ?_
  show LW p l e s m below meth c b G aP 895 (lvL b aP i) [.int v] hc1 hm
  refine lw_aload C (pc := 895) (q := 3) d_law_895 rfl rfl ?_
  refine lw_cell C (i := i) (k := 1) (pc := 896) hL hi (by decide) d_law_896 d_law_897 d_law_898 (by decide) d_law_899 d_law_900 ?_
  refine lw_cell C (i := i) (k := 2) (pc := 901) hL hi (by decide) d_law_901 d_law_902 d_law_903 (by decide) d_law_904 d_law_905 ?_
  refine lw_callM C (pc := 906) (K' := K_M_offer) (n' := 1) (As := [.int (xs (i + 1)), .int (xs (i + 2))]) (st := [.int v]) okV_M_offer rfl (ok_M_offer (mY G (aP + 184)) (aP + 184) (xs (i + 1)) (xs (i + 2)) hm (M_isO G (aP + 184))) e2 w9_70 d_law_906 rfl (by decide) rfl (Nat.le_of_ble_eq_true rfl) ?_
  show LW p l e s m below meth c b G aP 909 (lvL b aP i) [.int v, .int v] hc1 hm1
  exact lw_icmp_eq C (pc := 909) (tgt := 1918) d_law_909 (by decide) (nx _ _ J1)
theorem law_19 (C : LCx p s m meth c b L xs G aP) (hL : L ≤ 3072) {i : Nat} (hi : i + 6 ≤ L) {hc hm : Hp} (J : JJ (pY G aP) (mY G (aP + 184)) hc aP hm (aP + 184) kw0) (nx : ∀ hc hm, JJ (pY G aP) (mY G (aP + 184)) hc aP hm (aP + 184) kw0 → LW p l e s m below meth c b G aP 1918 (lvL b aP i) [] hc hm) : LW p l e s m below meth c b G aP 914 (lvL b aP i) [] hc hm := by
  obtain ⟨v, hc1, hm1, e1, e2, J1⟩ := so_watch J (xs (i + 1)) (xs (i + 2))
  refine lw_aload C (pc := 914) (q := 2) d_law_914 rfl rfl ?_
  refine lw_cell C (i := i) (k := 1) (pc := 915) hL hi (by decide) d_law_915 d_law_916 d_law_917 (by decide) d_law_918 d_law_919 ?_
  refine lw_cell C (i := i) (k := 2) (pc := 920) hL hi (by decide) d_law_920 d_law_921 d_law_922 (by decide) d_law_923 d_law_924 ?_
  refine lw_callC C (pc := 925) (K' := K_LP_watch) (n' := 2) (As := [.int (xs (i + 1)), .int (xs (i + 2))]) (st := []) okV_LP_watch rfl (ok_LP_watch (pY G aP) aP (xs (i + 1)) (xs (i + 2)) hc (oP G aP)) e1 w5_11 d_law_925 rfl (by decide) rfl (Nat.le_of_ble_eq_true rfl) ?_
  show LW p l e s m below meth c b G aP 928 (lvL b aP i) [.int v] hc1 hm
  refine lw_aload C (pc := 928) (q := 3) d_law_928 rfl rfl ?_
  refine lw_cell C (i := i) (k := 1) (pc := 929) hL hi (by decide) d_law_929 d_law_930 d_law_931 (by decide) d_law_932 d_law_933 ?_
  refine lw_cell C (i := i) (k := 2) (pc := 934) hL hi (by decide) d_law_934 d_law_935 d_law_936 (by decide) d_law_937 d_law_938 ?_
  refine lw_callM C (pc := 939) (K' := K_M_watch) (n' := 1) (As := [.int (xs (i + 1)), .int (xs (i + 2))]) (st := [.int v]) okV_M_watch rfl (ok_M_watch (mY G (aP + 184)) (aP + 184) (xs (i + 1)) (xs (i + 2)) hm (M_isO G (aP + 184))) e2 w9_74 d_law_939 rfl (by decide) rfl (Nat.le_of_ble_eq_true rfl) ?_
  show LW p l e s m below meth c b G aP 942 (lvL b aP i) [.int v, .int v] hc1 hm1
  exact lw_icmp_eq C (pc := 942) (tgt := 1918) d_law_942 (by decide) (nx _ _ J1)
theorem law_20 (C : LCx p s m meth c b L xs G aP) (hL : L ≤ 3072) {i : Nat} (hi : i + 6 ≤ L) {hc hm : Hp} (J : JJ (pY G aP) (mY G (aP + 184)) hc aP hm (aP + 184) kw0) (nx : ∀ hc hm, JJ (pY G aP) (mY G (aP + 184)) hc aP hm (aP + 184) kw0 → LW p l e s m below meth c b G aP 1918 (lvL b aP i) [] hc hm) : LW p l e s m below meth c b G aP 947 (lvL b aP i) [] hc hm := by
  obtain ⟨v, hc1, hm1, e1, e2, J1⟩ := so_copyFinale J (xs (i + 1)) (xs (i + 2))
  refine lw_aload C (pc := 947) (q := 2) d_law_947 rfl rfl ?_
  refine lw_cell C (i := i) (k := 1) (pc := 948) hL hi (by decide) d_law_948 d_law_949 d_law_950 (by decide) d_law_951 d_law_952 ?_
  refine lw_cell C (i := i) (k := 2) (pc := 953) hL hi (by decide) d_law_953 d_law_954 d_law_955 (by decide) d_law_956 d_law_957 ?_
  refine lw_callC C (pc := 958) (K' := K_LP_copyFinale) (n' := 2) (As := [.int (xs (i + 1)), .int (xs (i + 2))]) (st := []) okV_LP_copyFinale rfl (ok_LP_copyFinale (pY G aP) aP (xs (i + 1)) (xs (i + 2)) hc (oP G aP)) e1 w5_15 d_law_958 rfl (by decide) rfl (Nat.le_of_ble_eq_true rfl) ?_
  show LW p l e s m below meth c b G aP 961 (lvL b aP i) [.int v] hc1 hm
  refine lw_aload C (pc := 961) (q := 3) d_law_961 rfl rfl ?_
  refine lw_cell C (i := i) (k := 1) (pc := 962) hL hi (by decide) d_law_962 d_law_963 d_law_964 (by decide) d_law_965 d_law_966 ?_
  refine lw_cell C (i := i) (k := 2) (pc := 967) hL hi (by decide) d_law_967 d_law_968 d_law_969 (by decide) d_law_970 d_law_971 ?_
  refine lw_callM C (pc := 972) (K' := K_M_copyFinale) (n' := 2) (As := [.int (xs (i + 1)), .int (xs (i + 2))]) (st := [.int v]) okV_M_copyFinale rfl (ok_M_copyFinale (mY G (aP + 184)) (aP + 184) (xs (i + 1)) (xs (i + 2)) hm (M_isO G (aP + 184))) e2 w9_78 d_law_972 rfl (by decide) rfl (Nat.le_of_ble_eq_true rfl) ?_
  show LW p l e s m below meth c b G aP 975 (lvL b aP i) [.int v, .int v] hc1 hm1
  exact lw_icmp_eq C (pc := 975) (tgt := 1918) d_law_975 (by decide) (nx _ _ J1)
theorem law_21 (C : LCx p s m meth c b L xs G aP) (hL : L ≤ 3072) {i : Nat} (hi : i + 6 ≤ L) {hc hm : Hp} (J : JJ (pY G aP) (mY G (aP + 184)) hc aP hm (aP + 184) kw0) (nx : ∀ hc hm, JJ (pY G aP) (mY G (aP + 184)) hc aP hm (aP + 184) kw0 → LW p l e s m below meth c b G aP 1918 (lvL b aP i) [] hc hm) : LW p l e s m below meth c b G aP 980 (lvL b aP i) [] hc hm := by
  obtain ⟨v, hc1, hm1, e1, e2, J1⟩ := so_bind J (xs (i + 1)) (xs (i + 2))
  refine lw_aload C (pc := 980) (q := 2) d_law_980 rfl rfl ?_
  refine lw_cell C (i := i) (k := 1) (pc := 981) hL hi (by decide) d_law_981 d_law_982 d_law_983 (by decide) d_law_984 d_law_985 ?_
  refine lw_cell C (i := i) (k := 2) (pc := 986) hL hi (by decide) d_law_986 d_law_987 d_law_988 (by decide) d_law_989 d_law_990 ?_
  refine lw_callC C (pc := 991) (K' := K_LP_bind) (n' := 4) (As := [.int (xs (i + 1)), .int (xs (i + 2))]) (st := []) okV_LP_bind rfl (ok_LP_bind (pY G aP) aP (xs (i + 1)) (xs (i + 2)) hc (oP G aP)) e1 w5_19 d_law_991 rfl (by decide) rfl (Nat.le_of_ble_eq_true rfl) ?_
  show LW p l e s m below meth c b G aP 994 (lvL b aP i) [.int (b2i v)] hc1 hm
  refine lw_aload C (pc := 994) (q := 3) d_law_994 rfl rfl ?_
  refine lw_cell C (i := i) (k := 1) (pc := 995) hL hi (by decide) d_law_995 d_law_996 d_law_997 (by decide) d_law_998 d_law_999 ?_
  refine lw_cell C (i := i) (k := 2) (pc := 1000) hL hi (by decide) d_law_1000 d_law_1001 d_law_1002 (by decide) d_law_1003 d_law_1004 ?_
  refine lw_callM C (pc := 1005) (K' := K_M_bind) (n' := 5) (As := [.int (xs (i + 1)), .int (xs (i + 2))]) (st := [.int (b2i v)]) okV_M_bind rfl (ok_M_bind (mY G (aP + 184)) (aP + 184) (xs (i + 1)) (xs (i + 2)) hm (M_isO G (aP + 184))) e2 w9_86 d_law_1005 rfl (by decide) rfl (Nat.le_of_ble_eq_true rfl) ?_
  show LW p l e s m below meth c b G aP 1008 (lvL b aP i) [.int (b2i v), .int (b2i v)] hc1 hm1
  exact lw_icmp_eq C (pc := 1008) (tgt := 1918) d_law_1008 (by decide) (nx _ _ J1)
theorem law_22 (C : LCx p s m meth c b L xs G aP) (hL : L ≤ 3072) {i : Nat} (hi : i + 6 ≤ L) {hc hm : Hp} (J : JJ (pY G aP) (mY G (aP + 184)) hc aP hm (aP + 184) kw0) (nx : ∀ hc hm, JJ (pY G aP) (mY G (aP + 184)) hc aP hm (aP + 184) kw0 → LW p l e s m below meth c b G aP 1918 (lvL b aP i) [] hc hm) : LW p l e s m below meth c b G aP 1013 (lvL b aP i) [] hc hm := by
  obtain ⟨v, hc1, hm1, e1, e2, J1⟩ := so_loose J (xs (i + 1))
  refine lw_aload C (pc := 1013) (q := 2) d_law_1013 rfl rfl ?_
  refine lw_cell C (i := i) (k := 1) (pc := 1014) hL hi (by decide) d_law_1014 d_law_1015 d_law_1016 (by decide) d_law_1017 d_law_1018 ?_
  refine lw_callC C (pc := 1019) (K' := K_LP_loose) (n' := 2) (As := [.int (xs (i + 1))]) (st := []) okV_LP_loose rfl (ok_LP_loose (pY G aP) aP (xs (i + 1)) hc (oP G aP)) e1 w5_67 d_law_1019 rfl (by decide) rfl (Nat.le_of_ble_eq_true rfl) ?_
  show LW p l e s m below meth c b G aP 1022 (lvL b aP i) [.int v] hc1 hm
  refine lw_aload C (pc := 1022) (q := 3) d_law_1022 rfl rfl ?_
  refine lw_cell C (i := i) (k := 1) (pc := 1023) hL hi (by decide) d_law_1023 d_law_1024 d_law_1025 (by decide) d_law_1026 d_law_1027 ?_
  refine lw_callM C (pc := 1028) (K' := K_M_loose) (n' := 2) (As := [.int (xs (i + 1))]) (st := [.int v]) okV_M_loose rfl (ok_M_loose (mY G (aP + 184)) (aP + 184) (xs (i + 1)) hm (M_isO G (aP + 184))) e2 w9_113 d_law_1028 rfl (by decide) rfl (Nat.le_of_ble_eq_true rfl) ?_
  show LW p l e s m below meth c b G aP 1031 (lvL b aP i) [.int v, .int v] hc1 hm1
  exact lw_icmp_eq C (pc := 1031) (tgt := 1918) d_law_1031 (by decide) (nx _ _ J1)
theorem law_23 (C : LCx p s m meth c b L xs G aP) (hL : L ≤ 3072) {i : Nat} (hi : i + 6 ≤ L) {hc hm : Hp} (J : JJ (pY G aP) (mY G (aP + 184)) hc aP hm (aP + 184) kw0) (nx : ∀ hc hm, JJ (pY G aP) (mY G (aP + 184)) hc aP hm (aP + 184) kw0 → LW p l e s m below meth c b G aP 1918 (lvL b aP i) [] hc hm) : LW p l e s m below meth c b G aP 1036 (lvL b aP i) [] hc hm := by
  by_cases hz : (xs (i + 2)) = 0
  · obtain ⟨v, hc1, hm1, e1, e2, J1⟩ := so_call J (xs (i + 1)) false
    refine lw_aload C (pc := 1036) (q := 2) d_law_1036 rfl rfl ?_
    refine lw_cell C (i := i) (k := 1) (pc := 1037) hL hi (by decide) d_law_1037 d_law_1038 d_law_1039 (by decide) d_law_1040 d_law_1041 ?_
    refine lw_cell C (i := i) (k := 2) (pc := 1042) hL hi (by decide) d_law_1042 d_law_1043 d_law_1044 (by decide) d_law_1045 d_law_1046 ?_
    refine lw_ifeq_t C (pc := 1047) (tgt := 1054) d_law_1047 (by decide) hz ?_
    refine lw_iconst C (pc := 1054) (x := 0) d_law_1054 (by decide) ?_
    refine lw_callC C (pc := 1055) (K' := K_LP_call) (n' := 1) (As := [.int (xs (i + 1)), .int (b2i false)]) (st := []) okV_LP_call rfl (ok_LP_call (pY G aP) aP (xs (i + 1)) false hc (oP G aP)) e1 w5_71 d_law_1055 rfl (by decide) rfl (Nat.le_of_ble_eq_true rfl) ?_
    show LW p l e s m below meth c b G aP 1058 (lvL b aP i) [.int (b2i v)] hc1 hm
    refine lw_aload C (pc := 1058) (q := 3) d_law_1058 rfl rfl ?_
    refine lw_cell C (i := i) (k := 1) (pc := 1059) hL hi (by decide) d_law_1059 d_law_1060 d_law_1061 (by decide) d_law_1062 d_law_1063 ?_
    refine lw_cell C (i := i) (k := 2) (pc := 1064) hL hi (by decide) d_law_1064 d_law_1065 d_law_1066 (by decide) d_law_1067 d_law_1068 ?_
    refine lw_ifeq_t C (pc := 1069) (tgt := 1076) d_law_1069 (by decide) hz ?_
    refine lw_iconst C (pc := 1076) (x := 0) d_law_1076 (by decide) ?_
    refine lw_callM C (pc := 1077) (K' := K_M_call) (n' := 1) (As := [.int (xs (i + 1)), .int (b2i false)]) (st := [.int (b2i v)]) okV_M_call rfl (ok_M_call (mY G (aP + 184)) (aP + 184) (xs (i + 1)) false hm (M_isO G (aP + 184))) e2 w9_117 d_law_1077 rfl (by decide) rfl (Nat.le_of_ble_eq_true rfl) ?_
    show LW p l e s m below meth c b G aP 1080 (lvL b aP i) [.int (b2i v), .int (b2i v)] hc1 hm1
    exact lw_icmp_eq C (pc := 1080) (tgt := 1918) d_law_1080 (by decide) (nx _ _ J1)
  · obtain ⟨v, hc1, hm1, e1, e2, J1⟩ := so_call J (xs (i + 1)) true
    refine lw_aload C (pc := 1036) (q := 2) d_law_1036 rfl rfl ?_
    refine lw_cell C (i := i) (k := 1) (pc := 1037) hL hi (by decide) d_law_1037 d_law_1038 d_law_1039 (by decide) d_law_1040 d_law_1041 ?_
    refine lw_cell C (i := i) (k := 2) (pc := 1042) hL hi (by decide) d_law_1042 d_law_1043 d_law_1044 (by decide) d_law_1045 d_law_1046 ?_
    refine lw_ifeq_f C (pc := 1047) (tgt := 1054) d_law_1047 (by decide) hz ?_
    refine lw_iconst C (pc := 1050) (x := 1) d_law_1050 (by decide) ?_
    refine lw_goto C (pc := 1051) (tgt := 1055) d_law_1051 (by decide) ?_
    refine lw_callC C (pc := 1055) (K' := K_LP_call) (n' := 1) (As := [.int (xs (i + 1)), .int (b2i true)]) (st := []) okV_LP_call rfl (ok_LP_call (pY G aP) aP (xs (i + 1)) true hc (oP G aP)) e1 w5_71 d_law_1055 rfl (by decide) rfl (Nat.le_of_ble_eq_true rfl) ?_
    show LW p l e s m below meth c b G aP 1058 (lvL b aP i) [.int (b2i v)] hc1 hm
    refine lw_aload C (pc := 1058) (q := 3) d_law_1058 rfl rfl ?_
    refine lw_cell C (i := i) (k := 1) (pc := 1059) hL hi (by decide) d_law_1059 d_law_1060 d_law_1061 (by decide) d_law_1062 d_law_1063 ?_
    refine lw_cell C (i := i) (k := 2) (pc := 1064) hL hi (by decide) d_law_1064 d_law_1065 d_law_1066 (by decide) d_law_1067 d_law_1068 ?_
    refine lw_ifeq_f C (pc := 1069) (tgt := 1076) d_law_1069 (by decide) hz ?_
    refine lw_iconst C (pc := 1072) (x := 1) d_law_1072 (by decide) ?_
    refine lw_goto C (pc := 1073) (tgt := 1077) d_law_1073 (by decide) ?_
    refine lw_callM C (pc := 1077) (K' := K_M_call) (n' := 1) (As := [.int (xs (i + 1)), .int (b2i true)]) (st := [.int (b2i v)]) okV_M_call rfl (ok_M_call (mY G (aP + 184)) (aP + 184) (xs (i + 1)) true hm (M_isO G (aP + 184))) e2 w9_117 d_law_1077 rfl (by decide) rfl (Nat.le_of_ble_eq_true rfl) ?_
    show LW p l e s m below meth c b G aP 1080 (lvL b aP i) [.int (b2i v), .int (b2i v)] hc1 hm1
    exact lw_icmp_eq C (pc := 1080) (tgt := 1918) d_law_1080 (by decide) (nx _ _ J1)
end LAWC
