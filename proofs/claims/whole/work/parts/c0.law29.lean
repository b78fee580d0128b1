theorem dL_law_2018 : decode cL_law 2018 = .ok (.invokevirtual 192, 3) := by decide +kernel
theorem dL_law_2021 : decode cL_law 2021 = .ok (.if_icmp .eq 28, 3) := by decide +kernel
theorem dL_law_2024 : decode cL_law 2024 = .ok (.iconst 0, 1) := by decide +kernel
theorem dL_law_2025 : decode cL_law 2025 = .ok (.ireturn, 1) := by decide +kernel
theorem dL_law_2026 : decode cL_law 2026 = .ok (.aload_n 1, 1) := by decide +kernel
theorem dL_law_2027 : decode cL_law 2027 = .ok (.aload_n 0, 1) := by decide +kernel
theorem dL_law_2028 : decode cL_law 2028 = .ok (.iload_n 3, 1) := by decide +kernel
theorem dL_law_2029 : decode cL_law 2029 = .ok (.iconst 1, 1) := by decide +kernel
theorem dL_law_2030 : decode cL_law 2030 = .ok (.iadd, 1) := by decide +kernel
theorem dL_law_2031 : decode cL_law 2031 = .ok (.iaload, 1) := by decide +kernel
theorem dL_law_2032 : decode cL_law 2032 = .ok (.invokevirtual 193, 3) := by decide +kernel
theorem dL_law_2035 : decode cL_law 2035 = .ok (.aload_n 2, 1) := by decide +kernel
theorem dL_law_2036 : decode cL_law 2036 = .ok (.aload_n 0, 1) := by decide +kernel
theorem dL_law_2037 : decode cL_law 2037 = .ok (.iload_n 3, 1) := by decide +kernel
theorem dL_law_2038 : decode cL_law 2038 = .ok (.iconst 1, 1) := by decide +kernel
theorem dL_law_2039 : decode cL_law 2039 = .ok (.iadd, 1) := by decide +kernel
theorem dL_law_2040 : decode cL_law 2040 = .ok (.iaload, 1) := by decide +kernel
theorem dL_law_2041 : decode cL_law 2041 = .ok (.invokevirtual 196, 3) := by decide +kernel
theorem dL_law_2044 : decode cL_law 2044 = .ok (.if_icmp .eq 5, 3) := by decide +kernel
theorem dL_law_2047 : decode cL_law 2047 = .ok (.iconst 0, 1) := by decide +kernel
theorem dL_law_2048 : decode cL_law 2048 = .ok (.ireturn, 1) := by decide +kernel
theorem dL_law_2049 : decode cL_law 2049 = .ok (.iinc 3 6, 3) := by decide +kernel
theorem dL_law_2052 : decode cL_law 2052 = .ok (.goto (-2034), 3) := by decide +kernel
theorem dL_law_2055 : decode cL_law 2055 = .ok (.iconst 1, 1) := by decide +kernel
theorem dL_law_2056 : decode cL_law 2056 = .ok (.ireturn, 1) := by decide +kernel
