/-! the law, decoded -/
theorem dL_820 : decode code 820 = .ok (.iaload, 1) := by decide +kernel
theorem dL_821 : decode code 821 = .ok (.invokevirtual 93, 3) := by decide +kernel
theorem dL_824 : decode code 824 = .ok (.aload_n 2, 1) := by decide +kernel
theorem dL_825 : decode code 825 = .ok (.aload_n 0, 1) := by decide +kernel
theorem dL_826 : decode code 826 = .ok (.iload_n 3, 1) := by decide +kernel
theorem dL_827 : decode code 827 = .ok (.iconst 1, 1) := by decide +kernel
theorem dL_828 : decode code 828 = .ok (.iadd, 1) := by decide +kernel
theorem dL_829 : decode code 829 = .ok (.iaload, 1) := by decide +kernel
theorem dL_830 : decode code 830 = .ok (.invokevirtual 96, 3) := by decide +kernel
theorem dL_833 : decode code 833 = .ok (.if_icmp .eq 855, 3) := by decide +kernel
theorem dL_836 : decode code 836 = .ok (.iconst 0, 1) := by decide +kernel
theorem dL_837 : decode code 837 = .ok (.ireturn, 1) := by decide +kernel
theorem dL_838 : decode code 838 = .ok (.aload_n 1, 1) := by decide +kernel
theorem dL_839 : decode code 839 = .ok (.aload_n 0, 1) := by decide +kernel
theorem dL_840 : decode code 840 = .ok (.iload_n 3, 1) := by decide +kernel
theorem dL_841 : decode code 841 = .ok (.iconst 1, 1) := by decide +kernel
theorem dL_842 : decode code 842 = .ok (.iadd, 1) := by decide +kernel
theorem dL_843 : decode code 843 = .ok (.iaload, 1) := by decide +kernel
theorem dL_844 : decode code 844 = .ok (.aload_n 0, 1) := by decide +kernel
theorem dL_845 : decode code 845 = .ok (.iload_n 3, 1) := by decide +kernel
theorem dL_846 : decode code 846 = .ok (.iconst 2, 1) := by decide +kernel
theorem dL_847 : decode code 847 = .ok (.iadd, 1) := by decide +kernel
theorem dL_848 : decode code 848 = .ok (.iaload, 1) := by decide +kernel
theorem dL_849 : decode code 849 = .ok (.invokevirtual 97, 3) := by decide +kernel
theorem dL_852 : decode code 852 = .ok (.aload_n 2, 1) := by decide +kernel
theorem dL_853 : decode code 853 = .ok (.aload_n 0, 1) := by decide +kernel
theorem dL_854 : decode code 854 = .ok (.iload_n 3, 1) := by decide +kernel
theorem dL_855 : decode code 855 = .ok (.iconst 1, 1) := by decide +kernel
theorem dL_856 : decode code 856 = .ok (.iadd, 1) := by decide +kernel
theorem dL_857 : decode code 857 = .ok (.iaload, 1) := by decide +kernel
theorem dL_858 : decode code 858 = .ok (.aload_n 0, 1) := by decide +kernel
theorem dL_859 : decode code 859 = .ok (.iload_n 3, 1) := by decide +kernel
theorem dL_860 : decode code 860 = .ok (.iconst 2, 1) := by decide +kernel
theorem dL_861 : decode code 861 = .ok (.iadd, 1) := by decide +kernel
theorem dL_862 : decode code 862 = .ok (.iaload, 1) := by decide +kernel
theorem dL_863 : decode code 863 = .ok (.invokevirtual 100, 3) := by decide +kernel
theorem dL_866 : decode code 866 = .ok (.if_icmp .eq 822, 3) := by decide +kernel
theorem dL_869 : decode code 869 = .ok (.iconst 0, 1) := by decide +kernel
theorem dL_870 : decode code 870 = .ok (.ireturn, 1) := by decide +kernel
theorem dL_871 : decode code 871 = .ok (.aload_n 1, 1) := by decide +kernel
theorem dL_872 : decode code 872 = .ok (.aload_n 0, 1) := by decide +kernel
theorem dL_873 : decode code 873 = .ok (.iload_n 3, 1) := by decide +kernel
theorem dL_874 : decode code 874 = .ok (.iconst 1, 1) := by decide +kernel
theorem dL_875 : decode code 875 = .ok (.iadd, 1) := by decide +kernel
theorem dL_876 : decode code 876 = .ok (.iaload, 1) := by decide +kernel
theorem dL_877 : decode code 877 = .ok (.aload_n 0, 1) := by decide +kernel
theorem dL_878 : decode code 878 = .ok (.iload_n 3, 1) := by decide +kernel
theorem dL_879 : decode code 879 = .ok (.iconst 2, 1) := by decide +kernel
theorem dL_880 : decode code 880 = .ok (.iadd, 1) := by decide +kernel
theorem dL_881 : decode code 881 = .ok (.iaload, 1) := by decide +kernel
theorem dL_882 : decode code 882 = .ok (.invokevirtual 101, 3) := by decide +kernel
theorem dL_885 : decode code 885 = .ok (.aload_n 2, 1) := by decide +kernel
theorem dL_886 : decode code 886 = .ok (.aload_n 0, 1) := by decide +kernel
theorem dL_887 : decode code 887 = .ok (.iload_n 3, 1) := by decide +kernel
theorem dL_888 : decode code 888 = .ok (.iconst 1, 1) := by decide +kernel
theorem dL_889 : decode code 889 = .ok (.iadd, 1) := by decide +kernel
theorem dL_890 : decode code 890 = .ok (.iaload, 1) := by decide +kernel
theorem dL_891 : decode code 891 = .ok (.aload_n 0, 1) := by decide +kernel
theorem dL_892 : decode code 892 = .ok (.iload_n 3, 1) := by decide +kernel
theorem dL_893 : decode code 893 = .ok (.iconst 2, 1) := by decide +kernel
theorem dL_894 : decode code 894 = .ok (.iadd, 1) := by decide +kernel
theorem dL_895 : decode code 895 = .ok (.iaload, 1) := by decide +kernel
theorem dL_896 : decode code 896 = .ok (.invokevirtual 104, 3) := by decide +kernel
theorem dL_899 : decode code 899 = .ok (.if_icmp .eq 789, 3) := by decide +kernel
theorem dL_902 : decode code 902 = .ok (.iconst 0, 1) := by decide +kernel
theorem dL_903 : decode code 903 = .ok (.ireturn, 1) := by decide +kernel
theorem dL_904 : decode code 904 = .ok (.aload_n 1, 1) := by decide +kernel
theorem dL_905 : decode code 905 = .ok (.aload_n 0, 1) := by decide +kernel
theorem dL_906 : decode code 906 = .ok (.iload_n 3, 1) := by decide +kernel
theorem dL_907 : decode code 907 = .ok (.iconst 1, 1) := by decide +kernel
theorem dL_908 : decode code 908 = .ok (.iadd, 1) := by decide +kernel
theorem dL_909 : decode code 909 = .ok (.iaload, 1) := by decide +kernel
theorem dL_910 : decode code 910 = .ok (.aload_n 0, 1) := by decide +kernel
theorem dL_911 : decode code 911 = .ok (.iload_n 3, 1) := by decide +kernel
theorem dL_912 : decode code 912 = .ok (.iconst 2, 1) := by decide +kernel
theorem dL_913 : decode code 913 = .ok (.iadd, 1) := by decide +kernel
theorem dL_914 : decode code 914 = .ok (.iaload, 1) := by decide +kernel
theorem dL_915 : decode code 915 = .ok (.invokevirtual 105, 3) := by decide +kernel
theorem dL_918 : decode code 918 = .ok (.aload_n 2, 1) := by decide +kernel
theorem dL_919 : decode code 919 = .ok (.aload_n 0, 1) := by decide +kernel
theorem dL_920 : decode code 920 = .ok (.iload_n 3, 1) := by decide +kernel
theorem dL_921 : decode code 921 = .ok (.iconst 1, 1) := by decide +kernel
theorem dL_922 : decode code 922 = .ok (.iadd, 1) := by decide +kernel
theorem dL_923 : decode code 923 = .ok (.iaload, 1) := by decide +kernel
theorem dL_924 : decode code 924 = .ok (.aload_n 0, 1) := by decide +kernel
theorem dL_925 : decode code 925 = .ok (.iload_n 3, 1) := by decide +kernel
theorem dL_926 : decode code 926 = .ok (.iconst 2, 1) := by decide +kernel
theorem dL_927 : decode code 927 = .ok (.iadd, 1) := by decide +kernel
theorem dL_928 : decode code 928 = .ok (.iaload, 1) := by decide +kernel
theorem dL_929 : decode code 929 = .ok (.invokevirtual 108, 3) := by decide +kernel
theorem dL_932 : decode code 932 = .ok (.if_icmp .eq 756, 3) := by decide +kernel
theorem dL_935 : decode code 935 = .ok (.iconst 0, 1) := by decide +kernel
theorem dL_936 : decode code 936 = .ok (.ireturn, 1) := by decide +kernel
theorem dL_937 : decode code 937 = .ok (.aload_n 1, 1) := by decide +kernel
theorem dL_938 : decode code 938 = .ok (.aload_n 0, 1) := by decide +kernel
theorem dL_939 : decode code 939 = .ok (.iload_n 3, 1) := by decide +kernel
theorem dL_940 : decode code 940 = .ok (.iconst 1, 1) := by decide +kernel
theorem dL_941 : decode code 941 = .ok (.iadd, 1) := by decide +kernel
theorem dL_942 : decode code 942 = .ok (.iaload, 1) := by decide +kernel
theorem dL_943 : decode code 943 = .ok (.aload_n 0, 1) := by decide +kernel
theorem dL_944 : decode code 944 = .ok (.iload_n 3, 1) := by decide +kernel
theorem dL_945 : decode code 945 = .ok (.iconst 2, 1) := by decide +kernel
theorem dL_946 : decode code 946 = .ok (.iadd, 1) := by decide +kernel
theorem dL_947 : decode code 947 = .ok (.iaload, 1) := by decide +kernel
theorem dL_948 : decode code 948 = .ok (.invokevirtual 109, 3) := by decide +kernel
theorem dL_951 : decode code 951 = .ok (.aload_n 2, 1) := by decide +kernel
theorem dL_952 : decode code 952 = .ok (.aload_n 0, 1) := by decide +kernel
theorem dL_953 : decode code 953 = .ok (.iload_n 3, 1) := by decide +kernel
theorem dL_954 : decode code 954 = .ok (.iconst 1, 1) := by decide +kernel
theorem dL_955 : decode code 955 = .ok (.iadd, 1) := by decide +kernel
theorem dL_956 : decode code 956 = .ok (.iaload, 1) := by decide +kernel
theorem dL_957 : decode code 957 = .ok (.aload_n 0, 1) := by decide +kernel
theorem dL_958 : decode code 958 = .ok (.iload_n 3, 1) := by decide +kernel
theorem dL_959 : decode code 959 = .ok (.iconst 2, 1) := by decide +kernel
theorem dL_960 : decode code 960 = .ok (.iadd, 1) := by decide +kernel
theorem dL_961 : decode code 961 = .ok (.iaload, 1) := by decide +kernel
theorem dL_962 : decode code 962 = .ok (.invokevirtual 112, 3) := by decide +kernel
theorem dL_965 : decode code 965 = .ok (.if_icmp .eq 723, 3) := by decide +kernel
theorem dL_968 : decode code 968 = .ok (.iconst 0, 1) := by decide +kernel
theorem dL_969 : decode code 969 = .ok (.ireturn, 1) := by decide +kernel
