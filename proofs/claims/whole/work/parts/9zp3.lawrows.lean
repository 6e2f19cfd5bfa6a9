/-! the law: decode rows (written by wip/whole/gen_law1.py) -/
theorem zd_L_805 : decode code 805 = .ok (.aload_n 1, 1) := by decide +kernel
theorem zd_L_806 : decode code 806 = .ok (.aload_n 0, 1) := by decide +kernel
theorem zd_L_807 : decode code 807 = .ok (.iload_n 3, 1) := by decide +kernel
theorem zd_L_808 : decode code 808 = .ok (.iconst 1, 1) := by decide +kernel
theorem zd_L_809 : decode code 809 = .ok (.iadd, 1) := by decide +kernel
theorem zd_L_810 : decode code 810 = .ok (.iaload, 1) := by decide +kernel
theorem zd_L_811 : decode code 811 = .ok (.aload_n 0, 1) := by decide +kernel
theorem zd_L_812 : decode code 812 = .ok (.iload_n 3, 1) := by decide +kernel
theorem zd_L_813 : decode code 813 = .ok (.iconst 2, 1) := by decide +kernel
theorem zd_L_814 : decode code 814 = .ok (.iadd, 1) := by decide +kernel
theorem zd_L_815 : decode code 815 = .ok (.iaload, 1) := by decide +kernel
theorem zd_L_816 : decode code 816 = .ok (.aload_n 0, 1) := by decide +kernel
theorem zd_L_817 : decode code 817 = .ok (.iload_n 3, 1) := by decide +kernel
theorem zd_L_818 : decode code 818 = .ok (.iconst 3, 1) := by decide +kernel
theorem zd_L_819 : decode code 819 = .ok (.iadd, 1) := by decide +kernel
theorem zd_L_820 : decode code 820 = .ok (.iaload, 1) := by decide +kernel
theorem zd_L_821 : decode code 821 = .ok (.invokevirtual 109, 3) := by decide +kernel
theorem zd_L_824 : decode code 824 = .ok (.aload_n 2, 1) := by decide +kernel
theorem zd_L_825 : decode code 825 = .ok (.aload_n 0, 1) := by decide +kernel
theorem zd_L_826 : decode code 826 = .ok (.iload_n 3, 1) := by decide +kernel
theorem zd_L_827 : decode code 827 = .ok (.iconst 1, 1) := by decide +kernel
theorem zd_L_828 : decode code 828 = .ok (.iadd, 1) := by decide +kernel
theorem zd_L_829 : decode code 829 = .ok (.iaload, 1) := by decide +kernel
theorem zd_L_830 : decode code 830 = .ok (.aload_n 0, 1) := by decide +kernel
theorem zd_L_831 : decode code 831 = .ok (.iload_n 3, 1) := by decide +kernel
theorem zd_L_832 : decode code 832 = .ok (.iconst 2, 1) := by decide +kernel
theorem zd_L_833 : decode code 833 = .ok (.iadd, 1) := by decide +kernel
theorem zd_L_834 : decode code 834 = .ok (.iaload, 1) := by decide +kernel
theorem zd_L_835 : decode code 835 = .ok (.aload_n 0, 1) := by decide +kernel
theorem zd_L_836 : decode code 836 = .ok (.iload_n 3, 1) := by decide +kernel
theorem zd_L_837 : decode code 837 = .ok (.iconst 3, 1) := by decide +kernel
theorem zd_L_838 : decode code 838 = .ok (.iadd, 1) := by decide +kernel
theorem zd_L_839 : decode code 839 = .ok (.iaload, 1) := by decide +kernel
theorem zd_L_840 : decode code 840 = .ok (.invokevirtual 112, 3) := by decide +kernel
theorem zd_L_843 : decode code 843 = .ok (.if_icmp .eq 180, 3) := by decide +kernel
theorem zd_L_846 : decode code 846 = .ok (.iconst 0, 1) := by decide +kernel
theorem zd_L_847 : decode code 847 = .ok (.ireturn, 1) := by decide +kernel
theorem zd_L_848 : decode code 848 = .ok (.aload_n 1, 1) := by decide +kernel
theorem zd_L_849 : decode code 849 = .ok (.aload_n 0, 1) := by decide +kernel
theorem zd_L_850 : decode code 850 = .ok (.iload_n 3, 1) := by decide +kernel
theorem zd_L_851 : decode code 851 = .ok (.iconst 1, 1) := by decide +kernel
theorem zd_L_852 : decode code 852 = .ok (.iadd, 1) := by decide +kernel
theorem zd_L_853 : decode code 853 = .ok (.iaload, 1) := by decide +kernel
theorem zd_L_854 : decode code 854 = .ok (.aload_n 0, 1) := by decide +kernel
theorem zd_L_855 : decode code 855 = .ok (.iload_n 3, 1) := by decide +kernel
theorem zd_L_856 : decode code 856 = .ok (.iconst 2, 1) := by decide +kernel
theorem zd_L_857 : decode code 857 = .ok (.iadd, 1) := by decide +kernel
theorem zd_L_858 : decode code 858 = .ok (.iaload, 1) := by decide +kernel
theorem zd_L_859 : decode code 859 = .ok (.invokevirtual 113, 3) := by decide +kernel
theorem zd_L_862 : decode code 862 = .ok (.aload_n 2, 1) := by decide +kernel
theorem zd_L_863 : decode code 863 = .ok (.aload_n 0, 1) := by decide +kernel
theorem zd_L_864 : decode code 864 = .ok (.iload_n 3, 1) := by decide +kernel
theorem zd_L_865 : decode code 865 = .ok (.iconst 1, 1) := by decide +kernel
theorem zd_L_866 : decode code 866 = .ok (.iadd, 1) := by decide +kernel
theorem zd_L_867 : decode code 867 = .ok (.iaload, 1) := by decide +kernel
theorem zd_L_868 : decode code 868 = .ok (.aload_n 0, 1) := by decide +kernel
theorem zd_L_869 : decode code 869 = .ok (.iload_n 3, 1) := by decide +kernel
theorem zd_L_870 : decode code 870 = .ok (.iconst 2, 1) := by decide +kernel
theorem zd_L_871 : decode code 871 = .ok (.iadd, 1) := by decide +kernel
theorem zd_L_872 : decode code 872 = .ok (.iaload, 1) := by decide +kernel
theorem zd_L_873 : decode code 873 = .ok (.invokevirtual 116, 3) := by decide +kernel
theorem zd_L_876 : decode code 876 = .ok (.if_icmp .eq 147, 3) := by decide +kernel
theorem zd_L_879 : decode code 879 = .ok (.iconst 0, 1) := by decide +kernel
theorem zd_L_880 : decode code 880 = .ok (.ireturn, 1) := by decide +kernel
theorem zd_L_881 : decode code 881 = .ok (.aload_n 1, 1) := by decide +kernel
theorem zd_L_882 : decode code 882 = .ok (.aload_n 0, 1) := by decide +kernel
theorem zd_L_883 : decode code 883 = .ok (.iload_n 3, 1) := by decide +kernel
theorem zd_L_884 : decode code 884 = .ok (.iconst 1, 1) := by decide +kernel
theorem zd_L_885 : decode code 885 = .ok (.iadd, 1) := by decide +kernel
theorem zd_L_886 : decode code 886 = .ok (.iaload, 1) := by decide +kernel
theorem zd_L_887 : decode code 887 = .ok (.invokevirtual 117, 3) := by decide +kernel
theorem zd_L_890 : decode code 890 = .ok (.aload_n 2, 1) := by decide +kernel
theorem zd_L_891 : decode code 891 = .ok (.aload_n 0, 1) := by decide +kernel
theorem zd_L_892 : decode code 892 = .ok (.iload_n 3, 1) := by decide +kernel
theorem zd_L_893 : decode code 893 = .ok (.iconst 1, 1) := by decide +kernel
theorem zd_L_894 : decode code 894 = .ok (.iadd, 1) := by decide +kernel
theorem zd_L_895 : decode code 895 = .ok (.iaload, 1) := by decide +kernel
theorem zd_L_896 : decode code 896 = .ok (.invokevirtual 120, 3) := by decide +kernel
theorem zd_L_899 : decode code 899 = .ok (.if_icmp .eq 124, 3) := by decide +kernel
theorem zd_L_902 : decode code 902 = .ok (.iconst 0, 1) := by decide +kernel
theorem zd_L_903 : decode code 903 = .ok (.ireturn, 1) := by decide +kernel
theorem zd_L_904 : decode code 904 = .ok (.aload_n 1, 1) := by decide +kernel
theorem zd_L_905 : decode code 905 = .ok (.invokevirtual 121, 3) := by decide +kernel
theorem zd_L_908 : decode code 908 = .ok (.aload_n 2, 1) := by decide +kernel
theorem zd_L_909 : decode code 909 = .ok (.invokevirtual 124, 3) := by decide +kernel
theorem zd_L_912 : decode code 912 = .ok (.if_icmp .eq 111, 3) := by decide +kernel
theorem zd_L_915 : decode code 915 = .ok (.iconst 0, 1) := by decide +kernel
theorem zd_L_916 : decode code 916 = .ok (.ireturn, 1) := by decide +kernel
theorem zd_L_917 : decode code 917 = .ok (.aload_n 1, 1) := by decide +kernel
theorem zd_L_918 : decode code 918 = .ok (.invokevirtual 125, 3) := by decide +kernel
theorem zd_L_921 : decode code 921 = .ok (.aload_n 2, 1) := by decide +kernel
theorem zd_L_922 : decode code 922 = .ok (.invokevirtual 128, 3) := by decide +kernel
theorem zd_L_925 : decode code 925 = .ok (.if_icmp .eq 98, 3) := by decide +kernel
theorem zd_L_928 : decode code 928 = .ok (.iconst 0, 1) := by decide +kernel
theorem zd_L_929 : decode code 929 = .ok (.ireturn, 1) := by decide +kernel
theorem zd_L_930 : decode code 930 = .ok (.aload_n 1, 1) := by decide +kernel
theorem zd_L_931 : decode code 931 = .ok (.invokevirtual 129, 3) := by decide +kernel
theorem zd_L_934 : decode code 934 = .ok (.aload_n 2, 1) := by decide +kernel
theorem zd_L_935 : decode code 935 = .ok (.invokevirtual 132, 3) := by decide +kernel
theorem zd_L_938 : decode code 938 = .ok (.if_icmp .eq 85, 3) := by decide +kernel
theorem zd_L_941 : decode code 941 = .ok (.iconst 0, 1) := by decide +kernel
theorem zd_L_942 : decode code 942 = .ok (.ireturn, 1) := by decide +kernel
theorem zd_L_943 : decode code 943 = .ok (.aload_n 1, 1) := by decide +kernel
theorem zd_L_944 : decode code 944 = .ok (.aload_n 0, 1) := by decide +kernel
theorem zd_L_945 : decode code 945 = .ok (.iload_n 3, 1) := by decide +kernel
theorem zd_L_946 : decode code 946 = .ok (.iconst 1, 1) := by decide +kernel
theorem zd_L_947 : decode code 947 = .ok (.iadd, 1) := by decide +kernel
theorem zd_L_948 : decode code 948 = .ok (.iaload, 1) := by decide +kernel
theorem zd_L_949 : decode code 949 = .ok (.aload_n 0, 1) := by decide +kernel
theorem zd_L_950 : decode code 950 = .ok (.iload_n 3, 1) := by decide +kernel
theorem zd_L_951 : decode code 951 = .ok (.iconst 2, 1) := by decide +kernel
theorem zd_L_952 : decode code 952 = .ok (.iadd, 1) := by decide +kernel
theorem zd_L_953 : decode code 953 = .ok (.iaload, 1) := by decide +kernel
theorem zd_L_954 : decode code 954 = .ok (.aload_n 0, 1) := by decide +kernel
theorem zd_L_955 : decode code 955 = .ok (.iload_n 3, 1) := by decide +kernel
theorem zd_L_956 : decode code 956 = .ok (.iconst 3, 1) := by decide +kernel
theorem zd_L_957 : decode code 957 = .ok (.iadd, 1) := by decide +kernel
theorem zd_L_958 : decode code 958 = .ok (.iaload, 1) := by decide +kernel
theorem zd_L_959 : decode code 959 = .ok (.invokevirtual 133, 3) := by decide +kernel
theorem zd_L_962 : decode code 962 = .ok (.aload_n 2, 1) := by decide +kernel
theorem zd_L_963 : decode code 963 = .ok (.aload_n 0, 1) := by decide +kernel
theorem zd_L_964 : decode code 964 = .ok (.iload_n 3, 1) := by decide +kernel
theorem zd_L_965 : decode code 965 = .ok (.iconst 1, 1) := by decide +kernel
theorem zd_L_966 : decode code 966 = .ok (.iadd, 1) := by decide +kernel
theorem zd_L_967 : decode code 967 = .ok (.iaload, 1) := by decide +kernel
theorem zd_L_968 : decode code 968 = .ok (.aload_n 0, 1) := by decide +kernel
theorem zd_L_969 : decode code 969 = .ok (.iload_n 3, 1) := by decide +kernel
theorem zd_L_970 : decode code 970 = .ok (.iconst 2, 1) := by decide +kernel
theorem zd_L_971 : decode code 971 = .ok (.iadd, 1) := by decide +kernel
theorem zd_L_972 : decode code 972 = .ok (.iaload, 1) := by decide +kernel
theorem zd_L_973 : decode code 973 = .ok (.aload_n 0, 1) := by decide +kernel
theorem zd_L_974 : decode code 974 = .ok (.iload_n 3, 1) := by decide +kernel
theorem zd_L_975 : decode code 975 = .ok (.iconst 3, 1) := by decide +kernel
theorem zd_L_976 : decode code 976 = .ok (.iadd, 1) := by decide +kernel
theorem zd_L_977 : decode code 977 = .ok (.iaload, 1) := by decide +kernel
theorem zd_L_978 : decode code 978 = .ok (.invokevirtual 136, 3) := by decide +kernel
theorem zd_L_981 : decode code 981 = .ok (.if_icmp .eq 42, 3) := by decide +kernel
theorem zd_L_984 : decode code 984 = .ok (.iconst 0, 1) := by decide +kernel
theorem zd_L_985 : decode code 985 = .ok (.ireturn, 1) := by decide +kernel
theorem zd_L_986 : decode code 986 = .ok (.aload_n 1, 1) := by decide +kernel
theorem zd_L_987 : decode code 987 = .ok (.aload_n 0, 1) := by decide +kernel
theorem zd_L_988 : decode code 988 = .ok (.iload_n 3, 1) := by decide +kernel
theorem zd_L_989 : decode code 989 = .ok (.iconst 1, 1) := by decide +kernel
theorem zd_L_990 : decode code 990 = .ok (.iadd, 1) := by decide +kernel
theorem zd_L_991 : decode code 991 = .ok (.iaload, 1) := by decide +kernel
theorem zd_L_992 : decode code 992 = .ok (.invokevirtual 137, 3) := by decide +kernel
theorem zd_L_995 : decode code 995 = .ok (.aload_n 2, 1) := by decide +kernel
theorem zd_L_996 : decode code 996 = .ok (.aload_n 0, 1) := by decide +kernel
theorem zd_L_997 : decode code 997 = .ok (.iload_n 3, 1) := by decide +kernel
theorem zd_L_998 : decode code 998 = .ok (.iconst 1, 1) := by decide +kernel
theorem zd_L_999 : decode code 999 = .ok (.iadd, 1) := by decide +kernel
theorem zd_L_1000 : decode code 1000 = .ok (.iaload, 1) := by decide +kernel
theorem zd_L_1001 : decode code 1001 = .ok (.invokevirtual 140, 3) := by decide +kernel
theorem zd_L_1004 : decode code 1004 = .ok (.if_icmp .eq 19, 3) := by decide +kernel
theorem zd_L_1007 : decode code 1007 = .ok (.iconst 0, 1) := by decide +kernel
theorem zd_L_1008 : decode code 1008 = .ok (.ireturn, 1) := by decide +kernel
theorem zd_L_1009 : decode code 1009 = .ok (.aload_n 1, 1) := by decide +kernel
theorem zd_L_1010 : decode code 1010 = .ok (.invokevirtual 141, 3) := by decide +kernel
theorem zd_L_1013 : decode code 1013 = .ok (.aload_n 2, 1) := by decide +kernel
theorem zd_L_1014 : decode code 1014 = .ok (.invokevirtual 145, 3) := by decide +kernel
theorem zd_L_1017 : decode code 1017 = .ok (.lcmp, 1) := by decide +kernel
theorem zd_L_1018 : decode code 1018 = .ok (.ifCond .eq 5, 3) := by decide +kernel
theorem zd_L_1021 : decode code 1021 = .ok (.iconst 0, 1) := by decide +kernel
theorem zd_L_1022 : decode code 1022 = .ok (.ireturn, 1) := by decide +kernel
theorem zd_L_1023 : decode code 1023 = .ok (.iinc 3 4, 3) := by decide +kernel
theorem zd_L_1026 : decode code 1026 = .ok (.goto (-1008), 3) := by decide +kernel
theorem zd_L_1029 : decode code 1029 = .ok (.iconst 1, 1) := by decide +kernel
theorem zd_L_1030 : decode code 1030 = .ok (.ireturn, 1) := by decide +kernel
