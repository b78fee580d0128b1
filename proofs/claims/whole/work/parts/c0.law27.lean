theorem dL_law_1884 : decode cL_law 1884 = .ok (.aload_n 2, 1) := by decide +kernel
theorem dL_law_1885 : decode cL_law 1885 = .ok (.aload_n 0, 1) := by decide +kernel
theorem dL_law_1886 : decode cL_law 1886 = .ok (.iload_n 3, 1) := by decide +kernel
theorem dL_law_1887 : decode cL_law 1887 = .ok (.iconst 1, 1) := by decide +kernel
theorem dL_law_1888 : decode cL_law 1888 = .ok (.iadd, 1) := by decide +kernel
theorem dL_law_1889 : decode cL_law 1889 = .ok (.iaload, 1) := by decide +kernel
theorem dL_law_1890 : decode cL_law 1890 = .ok (.aload_n 0, 1) := by decide +kernel
theorem dL_law_1891 : decode cL_law 1891 = .ok (.iload_n 3, 1) := by decide +kernel
theorem dL_law_1892 : decode cL_law 1892 = .ok (.iconst 2, 1) := by decide +kernel
theorem dL_law_1893 : decode cL_law 1893 = .ok (.iadd, 1) := by decide +kernel
theorem dL_law_1894 : decode cL_law 1894 = .ok (.iaload, 1) := by decide +kernel
theorem dL_law_1895 : decode cL_law 1895 = .ok (.aload_n 0, 1) := by decide +kernel
theorem dL_law_1896 : decode cL_law 1896 = .ok (.iload_n 3, 1) := by decide +kernel
theorem dL_law_1897 : decode cL_law 1897 = .ok (.iconst 3, 1) := by decide +kernel
theorem dL_law_1898 : decode cL_law 1898 = .ok (.iadd, 1) := by decide +kernel
theorem dL_law_1899 : decode cL_law 1899 = .ok (.iaload, 1) := by decide +kernel
theorem dL_law_1900 : decode cL_law 1900 = .ok (.aload_n 0, 1) := by decide +kernel
theorem dL_law_1901 : decode cL_law 1901 = .ok (.iload_n 3, 1) := by decide +kernel
theorem dL_law_1902 : decode cL_law 1902 = .ok (.iconst 4, 1) := by decide +kernel
theorem dL_law_1903 : decode cL_law 1903 = .ok (.iadd, 1) := by decide +kernel
theorem dL_law_1904 : decode cL_law 1904 = .ok (.iaload, 1) := by decide +kernel
theorem dL_law_1905 : decode cL_law 1905 = .ok (.ifCond .eq 7, 3) := by decide +kernel
theorem dL_law_1908 : decode cL_law 1908 = .ok (.iconst 1, 1) := by decide +kernel
theorem dL_law_1909 : decode cL_law 1909 = .ok (.goto 4, 3) := by decide +kernel
theorem dL_law_1912 : decode cL_law 1912 = .ok (.iconst 0, 1) := by decide +kernel
theorem dL_law_1913 : decode cL_law 1913 = .ok (.invokevirtual 179, 3) := by decide +kernel
theorem dL_law_1916 : decode cL_law 1916 = .ok (.if_icmp .eq 133, 3) := by decide +kernel
theorem dL_law_1919 : decode cL_law 1919 = .ok (.iconst 0, 1) := by decide +kernel
theorem dL_law_1920 : decode cL_law 1920 = .ok (.ireturn, 1) := by decide +kernel
theorem dL_law_1921 : decode cL_law 1921 = .ok (.aload_n 1, 1) := by decide +kernel
theorem dL_law_1922 : decode cL_law 1922 = .ok (.aload_n 0, 1) := by decide +kernel
theorem dL_law_1923 : decode cL_law 1923 = .ok (.iload_n 3, 1) := by decide +kernel
theorem dL_law_1924 : decode cL_law 1924 = .ok (.iconst 1, 1) := by decide +kernel
theorem dL_law_1925 : decode cL_law 1925 = .ok (.iadd, 1) := by decide +kernel
theorem dL_law_1926 : decode cL_law 1926 = .ok (.iaload, 1) := by decide +kernel
theorem dL_law_1927 : decode cL_law 1927 = .ok (.aload_n 0, 1) := by decide +kernel
theorem dL_law_1928 : decode cL_law 1928 = .ok (.iload_n 3, 1) := by decide +kernel
theorem dL_law_1929 : decode cL_law 1929 = .ok (.iconst 2, 1) := by decide +kernel
theorem dL_law_1930 : decode cL_law 1930 = .ok (.iadd, 1) := by decide +kernel
theorem dL_law_1931 : decode cL_law 1931 = .ok (.iaload, 1) := by decide +kernel
theorem dL_law_1932 : decode cL_law 1932 = .ok (.aload_n 0, 1) := by decide +kernel
theorem dL_law_1933 : decode cL_law 1933 = .ok (.iload_n 3, 1) := by decide +kernel
theorem dL_law_1934 : decode cL_law 1934 = .ok (.iconst 3, 1) := by decide +kernel
theorem dL_law_1935 : decode cL_law 1935 = .ok (.iadd, 1) := by decide +kernel
theorem dL_law_1936 : decode cL_law 1936 = .ok (.iaload, 1) := by decide +kernel
theorem dL_law_1937 : decode cL_law 1937 = .ok (.ifCond .eq 7, 3) := by decide +kernel
theorem dL_law_1940 : decode cL_law 1940 = .ok (.iconst 1, 1) := by decide +kernel
theorem dL_law_1941 : decode cL_law 1941 = .ok (.goto 4, 3) := by decide +kernel
theorem dL_law_1944 : decode cL_law 1944 = .ok (.iconst 0, 1) := by decide +kernel
theorem dL_law_1945 : decode cL_law 1945 = .ok (.invokevirtual 180, 3) := by decide +kernel
theorem dL_law_1948 : decode cL_law 1948 = .ok (.aload_n 2, 1) := by decide +kernel
theorem dL_law_1949 : decode cL_law 1949 = .ok (.aload_n 0, 1) := by decide +kernel
