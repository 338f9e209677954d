/-! the law's entry, decoded -/
theorem dL_790 : decode code 790 = .ok (.iaload, 1) := by decide +kernel
theorem dL_791 : decode code 791 = .ok (.aload_n 0, 1) := by decide +kernel
theorem dL_792 : decode code 792 = .ok (.iload_n 3, 1) := by decide +kernel
theorem dL_793 : decode code 793 = .ok (.iconst 2, 1) := by decide +kernel
theorem dL_794 : decode code 794 = .ok (.iadd, 1) := by decide +kernel
theorem dL_795 : decode code 795 = .ok (.iaload, 1) := by decide +kernel
theorem dL_796 : decode code 796 = .ok (.invokevirtual 93, 3) := by decide +kernel
theorem dL_799 : decode code 799 = .ok (.aload_n 2, 1) := by decide +kernel
theorem dL_800 : decode code 800 = .ok (.aload_n 0, 1) := by decide +kernel
theorem dL_801 : decode code 801 = .ok (.iload_n 3, 1) := by decide +kernel
theorem dL_802 : decode code 802 = .ok (.iconst 1, 1) := by decide +kernel
theorem dL_803 : decode code 803 = .ok (.iadd, 1) := by decide +kernel
theorem dL_804 : decode code 804 = .ok (.iaload, 1) := by decide +kernel
theorem dL_805 : decode code 805 = .ok (.aload_n 0, 1) := by decide +kernel
theorem dL_806 : decode code 806 = .ok (.iload_n 3, 1) := by decide +kernel
theorem dL_807 : decode code 807 = .ok (.iconst 2, 1) := by decide +kernel
theorem dL_808 : decode code 808 = .ok (.iadd, 1) := by decide +kernel
theorem dL_809 : decode code 809 = .ok (.iaload, 1) := by decide +kernel
theorem dL_810 : decode code 810 = .ok (.invokevirtual 96, 3) := by decide +kernel
theorem dL_813 : decode code 813 = .ok (.if_icmp .eq 788, 3) := by decide +kernel
theorem dL_816 : decode code 816 = .ok (.iconst 0, 1) := by decide +kernel
theorem dL_817 : decode code 817 = .ok (.ireturn, 1) := by decide +kernel
theorem dL_818 : decode code 818 = .ok (.aload_n 1, 1) := by decide +kernel
theorem dL_819 : decode code 819 = .ok (.aload_n 0, 1) := by decide +kernel
theorem dL_820 : decode code 820 = .ok (.iload_n 3, 1) := by decide +kernel
theorem dL_821 : decode code 821 = .ok (.iconst 1, 1) := by decide +kernel
theorem dL_822 : decode code 822 = .ok (.iadd, 1) := by decide +kernel
theorem dL_823 : decode code 823 = .ok (.iaload, 1) := by decide +kernel
theorem dL_824 : decode code 824 = .ok (.aload_n 0, 1) := by decide +kernel
theorem dL_825 : decode code 825 = .ok (.iload_n 3, 1) := by decide +kernel
theorem dL_826 : decode code 826 = .ok (.iconst 2, 1) := by decide +kernel
theorem dL_827 : decode code 827 = .ok (.iadd, 1) := by decide +kernel
theorem dL_828 : decode code 828 = .ok (.iaload, 1) := by decide +kernel
theorem dL_829 : decode code 829 = .ok (.invokevirtual 97, 3) := by decide +kernel
theorem dL_832 : decode code 832 = .ok (.aload_n 2, 1) := by decide +kernel
theorem dL_833 : decode code 833 = .ok (.aload_n 0, 1) := by decide +kernel
theorem dL_834 : decode code 834 = .ok (.iload_n 3, 1) := by decide +kernel
theorem dL_835 : decode code 835 = .ok (.iconst 1, 1) := by decide +kernel
theorem dL_836 : decode code 836 = .ok (.iadd, 1) := by decide +kernel
theorem dL_837 : decode code 837 = .ok (.iaload, 1) := by decide +kernel
theorem dL_838 : decode code 838 = .ok (.aload_n 0, 1) := by decide +kernel
theorem dL_839 : decode code 839 = .ok (.iload_n 3, 1) := by decide +kernel
theorem dL_840 : decode code 840 = .ok (.iconst 2, 1) := by decide +kernel
theorem dL_841 : decode code 841 = .ok (.iadd, 1) := by decide +kernel
theorem dL_842 : decode code 842 = .ok (.iaload, 1) := by decide +kernel
theorem dL_843 : decode code 843 = .ok (.invokevirtual 100, 3) := by decide +kernel
theorem dL_846 : decode code 846 = .ok (.if_icmp .eq 755, 3) := by decide +kernel
theorem dL_849 : decode code 849 = .ok (.iconst 0, 1) := by decide +kernel
theorem dL_850 : decode code 850 = .ok (.ireturn, 1) := by decide +kernel
theorem dL_851 : decode code 851 = .ok (.aload_n 1, 1) := by decide +kernel
theorem dL_852 : decode code 852 = .ok (.aload_n 0, 1) := by decide +kernel
theorem dL_853 : decode code 853 = .ok (.iload_n 3, 1) := by decide +kernel
theorem dL_854 : decode code 854 = .ok (.iconst 1, 1) := by decide +kernel
theorem dL_855 : decode code 855 = .ok (.iadd, 1) := by decide +kernel
theorem dL_856 : decode code 856 = .ok (.iaload, 1) := by decide +kernel
theorem dL_857 : decode code 857 = .ok (.invokevirtual 101, 3) := by decide +kernel
theorem dL_860 : decode code 860 = .ok (.aload_n 2, 1) := by decide +kernel
theorem dL_861 : decode code 861 = .ok (.aload_n 0, 1) := by decide +kernel
theorem dL_862 : decode code 862 = .ok (.iload_n 3, 1) := by decide +kernel
theorem dL_863 : decode code 863 = .ok (.iconst 1, 1) := by decide +kernel
theorem dL_864 : decode code 864 = .ok (.iadd, 1) := by decide +kernel
theorem dL_865 : decode code 865 = .ok (.iaload, 1) := by decide +kernel
theorem dL_866 : decode code 866 = .ok (.invokevirtual 104, 3) := by decide +kernel
theorem dL_869 : decode code 869 = .ok (.if_icmp .eq 732, 3) := by decide +kernel
theorem dL_872 : decode code 872 = .ok (.iconst 0, 1) := by decide +kernel
theorem dL_873 : decode code 873 = .ok (.ireturn, 1) := by decide +kernel
theorem dL_874 : decode code 874 = .ok (.aload_n 1, 1) := by decide +kernel
theorem dL_875 : decode code 875 = .ok (.aload_n 0, 1) := by decide +kernel
theorem dL_876 : decode code 876 = .ok (.iload_n 3, 1) := by decide +kernel
theorem dL_877 : decode code 877 = .ok (.iconst 1, 1) := by decide +kernel
theorem dL_878 : decode code 878 = .ok (.iadd, 1) := by decide +kernel
theorem dL_879 : decode code 879 = .ok (.iaload, 1) := by decide +kernel
theorem dL_880 : decode code 880 = .ok (.invokevirtual 105, 3) := by decide +kernel
theorem dL_883 : decode code 883 = .ok (.aload_n 2, 1) := by decide +kernel
theorem dL_884 : decode code 884 = .ok (.aload_n 0, 1) := by decide +kernel
theorem dL_885 : decode code 885 = .ok (.iload_n 3, 1) := by decide +kernel
theorem dL_886 : decode code 886 = .ok (.iconst 1, 1) := by decide +kernel
theorem dL_887 : decode code 887 = .ok (.iadd, 1) := by decide +kernel
theorem dL_888 : decode code 888 = .ok (.iaload, 1) := by decide +kernel
theorem dL_889 : decode code 889 = .ok (.invokevirtual 108, 3) := by decide +kernel
theorem dL_892 : decode code 892 = .ok (.if_icmp .eq 709, 3) := by decide +kernel
theorem dL_895 : decode code 895 = .ok (.iconst 0, 1) := by decide +kernel
theorem dL_896 : decode code 896 = .ok (.ireturn, 1) := by decide +kernel
theorem dL_897 : decode code 897 = .ok (.aload_n 1, 1) := by decide +kernel
theorem dL_898 : decode code 898 = .ok (.aload_n 0, 1) := by decide +kernel
theorem dL_899 : decode code 899 = .ok (.iload_n 3, 1) := by decide +kernel
theorem dL_900 : decode code 900 = .ok (.iconst 1, 1) := by decide +kernel
theorem dL_901 : decode code 901 = .ok (.iadd, 1) := by decide +kernel
theorem dL_902 : decode code 902 = .ok (.iaload, 1) := by decide +kernel
theorem dL_903 : decode code 903 = .ok (.invokevirtual 109, 3) := by decide +kernel
theorem dL_906 : decode code 906 = .ok (.aload_n 2, 1) := by decide +kernel
theorem dL_907 : decode code 907 = .ok (.aload_n 0, 1) := by decide +kernel
theorem dL_908 : decode code 908 = .ok (.iload_n 3, 1) := by decide +kernel
theorem dL_909 : decode code 909 = .ok (.iconst 1, 1) := by decide +kernel
theorem dL_910 : decode code 910 = .ok (.iadd, 1) := by decide +kernel
theorem dL_911 : decode code 911 = .ok (.iaload, 1) := by decide +kernel
theorem dL_912 : decode code 912 = .ok (.invokevirtual 112, 3) := by decide +kernel
theorem dL_915 : decode code 915 = .ok (.if_icmp .eq 686, 3) := by decide +kernel
theorem dL_918 : decode code 918 = .ok (.iconst 0, 1) := by decide +kernel
theorem dL_919 : decode code 919 = .ok (.ireturn, 1) := by decide +kernel
theorem dL_920 : decode code 920 = .ok (.aload_n 1, 1) := by decide +kernel
theorem dL_921 : decode code 921 = .ok (.aload_n 0, 1) := by decide +kernel
theorem dL_922 : decode code 922 = .ok (.iload_n 3, 1) := by decide +kernel
theorem dL_923 : decode code 923 = .ok (.iconst 1, 1) := by decide +kernel
theorem dL_924 : decode code 924 = .ok (.iadd, 1) := by decide +kernel
theorem dL_925 : decode code 925 = .ok (.iaload, 1) := by decide +kernel
theorem dL_926 : decode code 926 = .ok (.invokevirtual 113, 3) := by decide +kernel
theorem dL_929 : decode code 929 = .ok (.aload_n 2, 1) := by decide +kernel
theorem dL_930 : decode code 930 = .ok (.aload_n 0, 1) := by decide +kernel
theorem dL_931 : decode code 931 = .ok (.iload_n 3, 1) := by decide +kernel
theorem dL_932 : decode code 932 = .ok (.iconst 1, 1) := by decide +kernel
theorem dL_933 : decode code 933 = .ok (.iadd, 1) := by decide +kernel
theorem dL_934 : decode code 934 = .ok (.iaload, 1) := by decide +kernel
theorem dL_935 : decode code 935 = .ok (.invokevirtual 116, 3) := by decide +kernel
theorem dL_938 : decode code 938 = .ok (.if_icmp .eq 663, 3) := by decide +kernel
theorem dL_941 : decode code 941 = .ok (.iconst 0, 1) := by decide +kernel
theorem dL_942 : decode code 942 = .ok (.ireturn, 1) := by decide +kernel
theorem dL_943 : decode code 943 = .ok (.aload_n 1, 1) := by decide +kernel
theorem dL_944 : decode code 944 = .ok (.aload_n 0, 1) := by decide +kernel
theorem dL_945 : decode code 945 = .ok (.iload_n 3, 1) := by decide +kernel
theorem dL_946 : decode code 946 = .ok (.iconst 1, 1) := by decide +kernel
theorem dL_947 : decode code 947 = .ok (.iadd, 1) := by decide +kernel
theorem dL_948 : decode code 948 = .ok (.iaload, 1) := by decide +kernel
theorem dL_949 : decode code 949 = .ok (.aload_n 0, 1) := by decide +kernel
theorem dL_950 : decode code 950 = .ok (.iload_n 3, 1) := by decide +kernel
theorem dL_951 : decode code 951 = .ok (.iconst 2, 1) := by decide +kernel
theorem dL_952 : decode code 952 = .ok (.iadd, 1) := by decide +kernel
theorem dL_953 : decode code 953 = .ok (.iaload, 1) := by decide +kernel
theorem dL_954 : decode code 954 = .ok (.invokevirtual 117, 3) := by decide +kernel
theorem dL_957 : decode code 957 = .ok (.aload_n 2, 1) := by decide +kernel
theorem dL_958 : decode code 958 = .ok (.aload_n 0, 1) := by decide +kernel
theorem dL_959 : decode code 959 = .ok (.iload_n 3, 1) := by decide +kernel
theorem dL_960 : decode code 960 = .ok (.iconst 1, 1) := by decide +kernel
theorem dL_961 : decode code 961 = .ok (.iadd, 1) := by decide +kernel
theorem dL_962 : decode code 962 = .ok (.iaload, 1) := by decide +kernel
theorem dL_963 : decode code 963 = .ok (.aload_n 0, 1) := by decide +kernel
theorem dL_964 : decode code 964 = .ok (.iload_n 3, 1) := by decide +kernel
theorem dL_965 : decode code 965 = .ok (.iconst 2, 1) := by decide +kernel
theorem dL_966 : decode code 966 = .ok (.iadd, 1) := by decide +kernel
theorem dL_967 : decode code 967 = .ok (.iaload, 1) := by decide +kernel
theorem dL_968 : decode code 968 = .ok (.invokevirtual 121, 3) := by decide +kernel
theorem dL_971 : decode code 971 = .ok (.lcmp, 1) := by decide +kernel
theorem dL_972 : decode code 972 = .ok (.ifCond .eq 629, 3) := by decide +kernel
theorem dL_975 : decode code 975 = .ok (.iconst 0, 1) := by decide +kernel
theorem dL_976 : decode code 976 = .ok (.ireturn, 1) := by decide +kernel
theorem dL_977 : decode code 977 = .ok (.aload_n 1, 1) := by decide +kernel
theorem dL_978 : decode code 978 = .ok (.aload_n 0, 1) := by decide +kernel
theorem dL_979 : decode code 979 = .ok (.iload_n 3, 1) := by decide +kernel
theorem dL_980 : decode code 980 = .ok (.iconst 1, 1) := by decide +kernel
theorem dL_981 : decode code 981 = .ok (.iadd, 1) := by decide +kernel
