theorem dl_794 : decode code 794 = .ok (.aload_n 1, 1) := by decide +kernel
theorem dl_795 : decode code 795 = .ok (.aload_n 0, 1) := by decide +kernel
theorem dl_796 : decode code 796 = .ok (.iload_n 3, 1) := by decide +kernel
theorem dl_797 : decode code 797 = .ok (.iconst 1, 1) := by decide +kernel
theorem dl_798 : decode code 798 = .ok (.iadd, 1) := by decide +kernel
theorem dl_799 : decode code 799 = .ok (.iaload, 1) := by decide +kernel
theorem dl_800 : decode code 800 = .ok (.invokevirtual 113, 3) := by decide +kernel
theorem dl_803 : decode code 803 = .ok (.pop, 1) := by decide +kernel
theorem dl_804 : decode code 804 = .ok (.aload_n 2, 1) := by decide +kernel
theorem dl_805 : decode code 805 = .ok (.aload_n 0, 1) := by decide +kernel
theorem dl_806 : decode code 806 = .ok (.iload_n 3, 1) := by decide +kernel
theorem dl_807 : decode code 807 = .ok (.iconst 1, 1) := by decide +kernel
theorem dl_808 : decode code 808 = .ok (.iadd, 1) := by decide +kernel
theorem dl_809 : decode code 809 = .ok (.iaload, 1) := by decide +kernel
theorem dl_810 : decode code 810 = .ok (.invokevirtual 116, 3) := by decide +kernel
theorem dl_813 : decode code 813 = .ok (.pop, 1) := by decide +kernel
theorem dl_814 : decode code 814 = .ok (.goto 508, 3) := by decide +kernel
theorem dl_817 : decode code 817 = .ok (.aload_n 1, 1) := by decide +kernel
theorem dl_818 : decode code 818 = .ok (.aload_n 0, 1) := by decide +kernel
theorem dl_819 : decode code 819 = .ok (.iload_n 3, 1) := by decide +kernel
theorem dl_820 : decode code 820 = .ok (.iconst 1, 1) := by decide +kernel
theorem dl_821 : decode code 821 = .ok (.iadd, 1) := by decide +kernel
theorem dl_822 : decode code 822 = .ok (.iaload, 1) := by decide +kernel
theorem dl_823 : decode code 823 = .ok (.aload_n 0, 1) := by decide +kernel
theorem dl_824 : decode code 824 = .ok (.iload_n 3, 1) := by decide +kernel
theorem dl_825 : decode code 825 = .ok (.iconst 2, 1) := by decide +kernel
theorem dl_826 : decode code 826 = .ok (.iadd, 1) := by decide +kernel
theorem dl_827 : decode code 827 = .ok (.iaload, 1) := by decide +kernel
theorem dl_828 : decode code 828 = .ok (.invokevirtual 117, 3) := by decide +kernel
theorem dl_831 : decode code 831 = .ok (.pop, 1) := by decide +kernel
theorem dl_832 : decode code 832 = .ok (.aload_n 2, 1) := by decide +kernel
theorem dl_833 : decode code 833 = .ok (.aload_n 0, 1) := by decide +kernel
theorem dl_834 : decode code 834 = .ok (.iload_n 3, 1) := by decide +kernel
theorem dl_835 : decode code 835 = .ok (.iconst 1, 1) := by decide +kernel
theorem dl_836 : decode code 836 = .ok (.iadd, 1) := by decide +kernel
theorem dl_837 : decode code 837 = .ok (.iaload, 1) := by decide +kernel
theorem dl_838 : decode code 838 = .ok (.aload_n 0, 1) := by decide +kernel
theorem dl_839 : decode code 839 = .ok (.iload_n 3, 1) := by decide +kernel
theorem dl_840 : decode code 840 = .ok (.iconst 2, 1) := by decide +kernel
theorem dl_841 : decode code 841 = .ok (.iadd, 1) := by decide +kernel
theorem dl_842 : decode code 842 = .ok (.iaload, 1) := by decide +kernel
theorem dl_843 : decode code 843 = .ok (.invokevirtual 120, 3) := by decide +kernel
theorem dl_846 : decode code 846 = .ok (.pop, 1) := by decide +kernel
theorem dl_847 : decode code 847 = .ok (.goto 475, 3) := by decide +kernel
theorem dl_850 : decode code 850 = .ok (.aload_n 1, 1) := by decide +kernel
theorem dl_851 : decode code 851 = .ok (.aload_n 0, 1) := by decide +kernel
theorem dl_852 : decode code 852 = .ok (.iload_n 3, 1) := by decide +kernel
theorem dl_853 : decode code 853 = .ok (.iconst 1, 1) := by decide +kernel
theorem dl_854 : decode code 854 = .ok (.iadd, 1) := by decide +kernel
theorem dl_855 : decode code 855 = .ok (.iaload, 1) := by decide +kernel
theorem dl_856 : decode code 856 = .ok (.aload_n 0, 1) := by decide +kernel
theorem dl_857 : decode code 857 = .ok (.iload_n 3, 1) := by decide +kernel
theorem dl_858 : decode code 858 = .ok (.iconst 2, 1) := by decide +kernel
theorem dl_859 : decode code 859 = .ok (.iadd, 1) := by decide +kernel
theorem dl_860 : decode code 860 = .ok (.iaload, 1) := by decide +kernel
theorem dl_861 : decode code 861 = .ok (.aload_n 0, 1) := by decide +kernel
theorem dl_862 : decode code 862 = .ok (.iload_n 3, 1) := by decide +kernel
theorem dl_863 : decode code 863 = .ok (.iconst 3, 1) := by decide +kernel
theorem dl_864 : decode code 864 = .ok (.iadd, 1) := by decide +kernel
theorem dl_865 : decode code 865 = .ok (.iaload, 1) := by decide +kernel
theorem dl_866 : decode code 866 = .ok (.invokevirtual 121, 3) := by decide +kernel
theorem dl_869 : decode code 869 = .ok (.pop, 1) := by decide +kernel
theorem dl_870 : decode code 870 = .ok (.aload_n 2, 1) := by decide +kernel
theorem dl_871 : decode code 871 = .ok (.aload_n 0, 1) := by decide +kernel
theorem dl_872 : decode code 872 = .ok (.iload_n 3, 1) := by decide +kernel
theorem dl_873 : decode code 873 = .ok (.iconst 1, 1) := by decide +kernel
theorem dl_874 : decode code 874 = .ok (.iadd, 1) := by decide +kernel
theorem dl_875 : decode code 875 = .ok (.iaload, 1) := by decide +kernel
theorem dl_876 : decode code 876 = .ok (.aload_n 0, 1) := by decide +kernel
theorem dl_877 : decode code 877 = .ok (.iload_n 3, 1) := by decide +kernel
theorem dl_878 : decode code 878 = .ok (.iconst 2, 1) := by decide +kernel
theorem dl_879 : decode code 879 = .ok (.iadd, 1) := by decide +kernel
theorem dl_880 : decode code 880 = .ok (.iaload, 1) := by decide +kernel
theorem dl_881 : decode code 881 = .ok (.aload_n 0, 1) := by decide +kernel
theorem dl_882 : decode code 882 = .ok (.iload_n 3, 1) := by decide +kernel
theorem dl_883 : decode code 883 = .ok (.iconst 3, 1) := by decide +kernel
theorem dl_884 : decode code 884 = .ok (.iadd, 1) := by decide +kernel
theorem dl_885 : decode code 885 = .ok (.iaload, 1) := by decide +kernel
theorem dl_886 : decode code 886 = .ok (.invokevirtual 124, 3) := by decide +kernel
theorem dl_889 : decode code 889 = .ok (.pop, 1) := by decide +kernel
theorem dl_890 : decode code 890 = .ok (.goto 432, 3) := by decide +kernel
theorem dl_893 : decode code 893 = .ok (.aload_n 1, 1) := by decide +kernel
theorem dl_894 : decode code 894 = .ok (.aload_n 0, 1) := by decide +kernel
theorem dl_895 : decode code 895 = .ok (.iload_n 3, 1) := by decide +kernel
theorem dl_896 : decode code 896 = .ok (.iconst 1, 1) := by decide +kernel
theorem dl_897 : decode code 897 = .ok (.iadd, 1) := by decide +kernel
theorem dl_898 : decode code 898 = .ok (.iaload, 1) := by decide +kernel
theorem dl_899 : decode code 899 = .ok (.aload_n 0, 1) := by decide +kernel
theorem dl_900 : decode code 900 = .ok (.iload_n 3, 1) := by decide +kernel
theorem dl_901 : decode code 901 = .ok (.iconst 2, 1) := by decide +kernel
theorem dl_902 : decode code 902 = .ok (.iadd, 1) := by decide +kernel
theorem dl_903 : decode code 903 = .ok (.iaload, 1) := by decide +kernel
theorem dl_904 : decode code 904 = .ok (.aload_n 0, 1) := by decide +kernel
theorem dl_905 : decode code 905 = .ok (.iload_n 3, 1) := by decide +kernel
theorem dl_906 : decode code 906 = .ok (.iconst 3, 1) := by decide +kernel
theorem dl_907 : decode code 907 = .ok (.iadd, 1) := by decide +kernel
theorem dl_908 : decode code 908 = .ok (.iaload, 1) := by decide +kernel
theorem dl_909 : decode code 909 = .ok (.aload_n 0, 1) := by decide +kernel
theorem dl_910 : decode code 910 = .ok (.iload_n 3, 1) := by decide +kernel
theorem dl_911 : decode code 911 = .ok (.iconst 4, 1) := by decide +kernel
theorem dl_912 : decode code 912 = .ok (.iadd, 1) := by decide +kernel
theorem dl_913 : decode code 913 = .ok (.iaload, 1) := by decide +kernel
theorem dl_914 : decode code 914 = .ok (.aload_n 0, 1) := by decide +kernel
theorem dl_915 : decode code 915 = .ok (.iload_n 3, 1) := by decide +kernel
theorem dl_916 : decode code 916 = .ok (.iconst 5, 1) := by decide +kernel
theorem dl_917 : decode code 917 = .ok (.iadd, 1) := by decide +kernel
theorem dl_918 : decode code 918 = .ok (.iaload, 1) := by decide +kernel
theorem dl_919 : decode code 919 = .ok (.invokevirtual 125, 3) := by decide +kernel
theorem dl_922 : decode code 922 = .ok (.aload_n 2, 1) := by decide +kernel
theorem dl_923 : decode code 923 = .ok (.aload_n 0, 1) := by decide +kernel
theorem dl_924 : decode code 924 = .ok (.iload_n 3, 1) := by decide +kernel
theorem dl_925 : decode code 925 = .ok (.iconst 1, 1) := by decide +kernel
theorem dl_926 : decode code 926 = .ok (.iadd, 1) := by decide +kernel
theorem dl_927 : decode code 927 = .ok (.iaload, 1) := by decide +kernel
theorem dl_928 : decode code 928 = .ok (.aload_n 0, 1) := by decide +kernel
theorem dl_929 : decode code 929 = .ok (.iload_n 3, 1) := by decide +kernel
theorem dl_930 : decode code 930 = .ok (.iconst 2, 1) := by decide +kernel
theorem dl_931 : decode code 931 = .ok (.iadd, 1) := by decide +kernel
theorem dl_932 : decode code 932 = .ok (.iaload, 1) := by decide +kernel
theorem dl_933 : decode code 933 = .ok (.aload_n 0, 1) := by decide +kernel
theorem dl_934 : decode code 934 = .ok (.iload_n 3, 1) := by decide +kernel
theorem dl_935 : decode code 935 = .ok (.iconst 3, 1) := by decide +kernel
theorem dl_936 : decode code 936 = .ok (.iadd, 1) := by decide +kernel
theorem dl_937 : decode code 937 = .ok (.iaload, 1) := by decide +kernel
theorem dl_938 : decode code 938 = .ok (.aload_n 0, 1) := by decide +kernel
theorem dl_939 : decode code 939 = .ok (.iload_n 3, 1) := by decide +kernel
theorem dl_940 : decode code 940 = .ok (.iconst 4, 1) := by decide +kernel
theorem dl_941 : decode code 941 = .ok (.iadd, 1) := by decide +kernel
theorem dl_942 : decode code 942 = .ok (.iaload, 1) := by decide +kernel
theorem dl_943 : decode code 943 = .ok (.aload_n 0, 1) := by decide +kernel
theorem dl_944 : decode code 944 = .ok (.iload_n 3, 1) := by decide +kernel
theorem dl_945 : decode code 945 = .ok (.iconst 5, 1) := by decide +kernel
theorem dl_946 : decode code 946 = .ok (.iadd, 1) := by decide +kernel
theorem dl_947 : decode code 947 = .ok (.iaload, 1) := by decide +kernel
theorem dl_948 : decode code 948 = .ok (.invokevirtual 129, 3) := by decide +kernel
theorem dl_951 : decode code 951 = .ok (.if_icmp .eq 371, 3) := by decide +kernel
theorem dl_954 : decode code 954 = .ok (.iconst 0, 1) := by decide +kernel
theorem dl_955 : decode code 955 = .ok (.ireturn, 1) := by decide +kernel
theorem dl_956 : decode code 956 = .ok (.aload_n 1, 1) := by decide +kernel
theorem dl_957 : decode code 957 = .ok (.invokevirtual 130, 3) := by decide +kernel
theorem dl_960 : decode code 960 = .ok (.pop, 1) := by decide +kernel
theorem dl_961 : decode code 961 = .ok (.aload_n 2, 1) := by decide +kernel
theorem dl_962 : decode code 962 = .ok (.invokevirtual 133, 3) := by decide +kernel
theorem dl_965 : decode code 965 = .ok (.pop, 1) := by decide +kernel
theorem dl_966 : decode code 966 = .ok (.goto 356, 3) := by decide +kernel
theorem dl_969 : decode code 969 = .ok (.aload_n 1, 1) := by decide +kernel
theorem dl_970 : decode code 970 = .ok (.invokevirtual 134, 3) := by decide +kernel
theorem dl_973 : decode code 973 = .ok (.pop, 1) := by decide +kernel
theorem dl_974 : decode code 974 = .ok (.aload_n 2, 1) := by decide +kernel
theorem dl_975 : decode code 975 = .ok (.invokevirtual 137, 3) := by decide +kernel
theorem dl_978 : decode code 978 = .ok (.pop, 1) := by decide +kernel
theorem dl_979 : decode code 979 = .ok (.goto 343, 3) := by decide +kernel
theorem dl_982 : decode code 982 = .ok (.aload_n 1, 1) := by decide +kernel
theorem dl_983 : decode code 983 = .ok (.aload_n 0, 1) := by decide +kernel
theorem dl_984 : decode code 984 = .ok (.iload_n 3, 1) := by decide +kernel
theorem dl_985 : decode code 985 = .ok (.iconst 1, 1) := by decide +kernel
theorem dl_986 : decode code 986 = .ok (.iadd, 1) := by decide +kernel
theorem dl_987 : decode code 987 = .ok (.iaload, 1) := by decide +kernel
theorem dl_988 : decode code 988 = .ok (.aload_n 0, 1) := by decide +kernel
theorem dl_989 : decode code 989 = .ok (.iload_n 3, 1) := by decide +kernel
