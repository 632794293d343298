/-! decode rows of the law (by gen72.py) -/
theorem lx_d_906 : decode code 906 = .ok (.invokevirtual 108, 3) := by decide +kernel
theorem lx_d_909 : decode code 909 = .ok (.aload_n 2, 1) := by decide +kernel
theorem lx_d_910 : decode code 910 = .ok (.aload_n 0, 1) := by decide +kernel
theorem lx_d_911 : decode code 911 = .ok (.iload_n 3, 1) := by decide +kernel
theorem lx_d_912 : decode code 912 = .ok (.iconst 1, 1) := by decide +kernel
theorem lx_d_913 : decode code 913 = .ok (.iadd, 1) := by decide +kernel
theorem lx_d_914 : decode code 914 = .ok (.iaload, 1) := by decide +kernel
theorem lx_d_915 : decode code 915 = .ok (.invokevirtual 111, 3) := by decide +kernel
theorem lx_d_918 : decode code 918 = .ok (.if_icmp .eq 448, 3) := by decide +kernel
theorem lx_d_921 : decode code 921 = .ok (.iconst 0, 1) := by decide +kernel
theorem lx_d_922 : decode code 922 = .ok (.ireturn, 1) := by decide +kernel
theorem lx_d_923 : decode code 923 = .ok (.aload_n 1, 1) := by decide +kernel
theorem lx_d_924 : decode code 924 = .ok (.invokevirtual 112, 3) := by decide +kernel
theorem lx_d_927 : decode code 927 = .ok (.aload_n 2, 1) := by decide +kernel
theorem lx_d_928 : decode code 928 = .ok (.invokevirtual 115, 3) := by decide +kernel
theorem lx_d_931 : decode code 931 = .ok (.if_icmp .eq 435, 3) := by decide +kernel
theorem lx_d_934 : decode code 934 = .ok (.iconst 0, 1) := by decide +kernel
theorem lx_d_935 : decode code 935 = .ok (.ireturn, 1) := by decide +kernel
theorem lx_d_936 : decode code 936 = .ok (.aload_n 1, 1) := by decide +kernel
theorem lx_d_937 : decode code 937 = .ok (.invokevirtual 116, 3) := by decide +kernel
theorem lx_d_940 : decode code 940 = .ok (.aload_n 2, 1) := by decide +kernel
theorem lx_d_941 : decode code 941 = .ok (.invokevirtual 119, 3) := by decide +kernel
theorem lx_d_944 : decode code 944 = .ok (.if_icmp .eq 422, 3) := by decide +kernel
theorem lx_d_947 : decode code 947 = .ok (.iconst 0, 1) := by decide +kernel
theorem lx_d_948 : decode code 948 = .ok (.ireturn, 1) := by decide +kernel
theorem lx_d_949 : decode code 949 = .ok (.aload_n 1, 1) := by decide +kernel
theorem lx_d_950 : decode code 950 = .ok (.invokevirtual 120, 3) := by decide +kernel
theorem lx_d_953 : decode code 953 = .ok (.aload_n 2, 1) := by decide +kernel
theorem lx_d_954 : decode code 954 = .ok (.invokevirtual 123, 3) := by decide +kernel
theorem lx_d_957 : decode code 957 = .ok (.if_icmp .eq 409, 3) := by decide +kernel
theorem lx_d_960 : decode code 960 = .ok (.iconst 0, 1) := by decide +kernel
theorem lx_d_961 : decode code 961 = .ok (.ireturn, 1) := by decide +kernel
theorem lx_d_962 : decode code 962 = .ok (.aload_n 1, 1) := by decide +kernel
theorem lx_d_963 : decode code 963 = .ok (.invokevirtual 124, 3) := by decide +kernel
theorem lx_d_966 : decode code 966 = .ok (.aload_n 2, 1) := by decide +kernel
theorem lx_d_967 : decode code 967 = .ok (.invokevirtual 127, 3) := by decide +kernel
theorem lx_d_970 : decode code 970 = .ok (.if_icmp .eq 396, 3) := by decide +kernel
theorem lx_d_973 : decode code 973 = .ok (.iconst 0, 1) := by decide +kernel
theorem lx_d_974 : decode code 974 = .ok (.ireturn, 1) := by decide +kernel
theorem lx_d_975 : decode code 975 = .ok (.aload_n 1, 1) := by decide +kernel
theorem lx_d_976 : decode code 976 = .ok (.aload_n 0, 1) := by decide +kernel
theorem lx_d_977 : decode code 977 = .ok (.iload_n 3, 1) := by decide +kernel
theorem lx_d_978 : decode code 978 = .ok (.iconst 1, 1) := by decide +kernel
theorem lx_d_979 : decode code 979 = .ok (.iadd, 1) := by decide +kernel
theorem lx_d_980 : decode code 980 = .ok (.iaload, 1) := by decide +kernel
theorem lx_d_981 : decode code 981 = .ok (.invokevirtual 128, 3) := by decide +kernel
theorem lx_d_984 : decode code 984 = .ok (.aload_n 2, 1) := by decide +kernel
theorem lx_d_985 : decode code 985 = .ok (.aload_n 0, 1) := by decide +kernel
theorem lx_d_986 : decode code 986 = .ok (.iload_n 3, 1) := by decide +kernel
theorem lx_d_987 : decode code 987 = .ok (.iconst 1, 1) := by decide +kernel
