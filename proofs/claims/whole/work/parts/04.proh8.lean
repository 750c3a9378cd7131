/-! The resolved instructions of the law, by program. -/
def am_l302_1 : List (Nat × Instr × Nat) := [(971, .invokevirtual 227, 3), (977, .invokevirtual 157, 3), (1027, .invokestatic 282, 3), (1051, .invokevirtual 234, 3), (1057, .invokevirtual 157, 3), (1107, .invokestatic 283, 3), (1131, .invokevirtual 235, 3), (1137, .invokevirtual 157, 3), (1175, .invokestatic 284, 3), (1187, .invokevirtual 236, 3), (1193, .invokevirtual 157, 3), (1243, .invokestatic 285, 3), (1267, .invokevirtual 237, 3), (1273, .invokevirtual 157, 3), (1317, .invokestatic 286, 3), (1335, .invokevirtual 239, 3), (1341, .invokevirtual 157, 3), (1379, .invokestatic 287, 3), (1391, .invokevirtual 240, 3), (1397, .invokevirtual 157, 3), (1441, .invokestatic 288, 3), (1459, .invokevirtual 243, 3), (1465, .invokevirtual 157, 3), (1503, .invokestatic 289, 3), (1515, .invokevirtual 244, 3), (1521, .invokevirtual 157, 3), (1559, .invokestatic 290, 3), (1571, .invokevirtual 245, 3), (1577, .invokevirtual 157, 3), (1615, .invokestatic 291, 3), (1627, .invokevirtual 248, 3), (1633, .invokevirtual 157, 3), (1678, .invokestatic 292, 3), (1690, .invokevirtual 249, 3), (1696, .invokevirtual 157, 3), (1734, .invokestatic 293, 3), (1746, .invokevirtual 250, 3), (1752, .invokevirtual 157, 3), (1810, .invokestatic 294, 3), (1842, .invokevirtual 251, 3)]
theorem am_ol302_1 : ∀ q ∈ am_l302_1, am_ok 302 q.1 q.2.1 q.2.2 := show ∀ q ∈ ([(971, .invokevirtual 227, 3), (977, .invokevirtual 157, 3), (1027, .invokestatic 282, 3), (1051, .invokevirtual 234, 3), (1057, .invokevirtual 157, 3), (1107, .invokestatic 283, 3), (1131, .invokevirtual 235, 3), (1137, .invokevirtual 157, 3), (1175, .invokestatic 284, 3), (1187, .invokevirtual 236, 3), (1193, .invokevirtual 157, 3), (1243, .invokestatic 285, 3), (1267, .invokevirtual 237, 3), (1273, .invokevirtual 157, 3), (1317, .invokestatic 286, 3), (1335, .invokevirtual 239, 3), (1341, .invokevirtual 157, 3), (1379, .invokestatic 287, 3), (1391, .invokevirtual 240, 3), (1397, .invokevirtual 157, 3), (1441, .invokestatic 288, 3), (1459, .invokevirtual 243, 3), (1465, .invokevirtual 157, 3), (1503, .invokestatic 289, 3), (1515, .invokevirtual 244, 3), (1521, .invokevirtual 157, 3), (1559, .invokestatic 290, 3), (1571, .invokevirtual 245, 3), (1577, .invokevirtual 157, 3), (1615, .invokestatic 291, 3), (1627, .invokevirtual 248, 3), (1633, .invokevirtual 157, 3), (1678, .invokestatic 292, 3), (1690, .invokevirtual 249, 3), (1696, .invokevirtual 157, 3), (1734, .invokestatic 293, 3), (1746, .invokevirtual 250, 3), (1752, .invokevirtual 157, 3), (1810, .invokestatic 294, 3), (1842, .invokevirtual 251, 3)] : List (Nat × Instr × Nat)), am_ok 302 q.1 q.2.1 q.2.2 from
  am_fc (am_okv 168 (by decide +kernel) (by decide) (am_mem 1858 (by decide +kernel)) (am_mem 1859 (by decide +kernel)) (am_mem 1860 (by decide +kernel))) (
  am_fc (am_okv 124 (by decide +kernel) (by decide) (am_mem 1599 (by decide +kernel)) (am_mem 1600 (by decide +kernel)) (am_mem 1601 (by decide +kernel))) (
  am_fc (am_oks 169 (by decide +kernel) (by decide) (am_mem 1126 (by decide +kernel)) (Or.inl (am_mem 1125 (by decide +kernel)))) (
  am_fc (am_okv 171 (by decide +kernel) (by decide) (am_mem 1886 (by decide +kernel)) (am_mem 1887 (by decide +kernel)) (am_mem 1888 (by decide +kernel))) (
  am_fc (am_okv 124 (by decide +kernel) (by decide) (am_mem 1599 (by decide +kernel)) (am_mem 1600 (by decide +kernel)) (am_mem 1601 (by decide +kernel))) (
  am_fc (am_oks 172 (by decide +kernel) (by decide) (am_mem 1134 (by decide +kernel)) (Or.inl (am_mem 1133 (by decide +kernel)))) (
  am_fc (am_okv 174 (by decide +kernel) (by decide) (am_mem 1898 (by decide +kernel)) (am_mem 1899 (by decide +kernel)) (am_mem 1900 (by decide +kernel))) (
  am_fc (am_okv 124 (by decide +kernel) (by decide) (am_mem 1599 (by decide +kernel)) (am_mem 1600 (by decide +kernel)) (am_mem 1601 (by decide +kernel))) (
  am_fc (am_oks 175 (by decide +kernel) (by decide) (am_mem 1156 (by decide +kernel)) (Or.inl (am_mem 1155 (by decide +kernel)))) (
  am_fc (am_okv 177 (by decide +kernel) (by decide) (am_mem 1902 (by decide +kernel)) (am_mem 1903 (by decide +kernel)) (am_mem 1904 (by decide +kernel))) (
  am_fc (am_okv 124 (by decide +kernel) (by decide) (am_mem 1599 (by decide +kernel)) (am_mem 1600 (by decide +kernel)) (am_mem 1601 (by decide +kernel))) (
  am_fc (am_oks 178 (by decide +kernel) (by decide) (am_mem 1164 (by decide +kernel)) (Or.inl (am_mem 1163 (by decide +kernel)))) (
  am_fc (am_okv 180 (by decide +kernel) (by decide) (am_mem 1906 (by decide +kernel)) (am_mem 1907 (by decide +kernel)) (am_mem 1908 (by decide +kernel))) (
  am_fc (am_okv 124 (by decide +kernel) (by decide) (am_mem 1599 (by decide +kernel)) (am_mem 1600 (by decide +kernel)) (am_mem 1601 (by decide +kernel))) (
  am_fc (am_oks 181 (by decide +kernel) (by decide) (am_mem 1181 (by decide +kernel)) (Or.inl (am_mem 1180 (by decide +kernel)))) (
  am_fc (am_okv 183 (by decide +kernel) (by decide) (am_mem 1910 (by decide +kernel)) (am_mem 1911 (by decide +kernel)) (am_mem 1912 (by decide +kernel))) (
  am_fc (am_okv 124 (by decide +kernel) (by decide) (am_mem 1599 (by decide +kernel)) (am_mem 1600 (by decide +kernel)) (am_mem 1601 (by decide +kernel))) (
  am_fc (am_oks 184 (by decide +kernel) (by decide) (am_mem 1210 (by decide +kernel)) (Or.inl (am_mem 1209 (by decide +kernel)))) (
  am_fc (am_okv 186 (by decide +kernel) (by decide) (am_mem 1918 (by decide +kernel)) (am_mem 1919 (by decide +kernel)) (am_mem 1920 (by decide +kernel))) (
  am_fc (am_okv 124 (by decide +kernel) (by decide) (am_mem 1599 (by decide +kernel)) (am_mem 1600 (by decide +kernel)) (am_mem 1601 (by decide +kernel))) (
  am_fc (am_oks 187 (by decide +kernel) (by decide) (am_mem 1218 (by decide +kernel)) (Or.inl (am_mem 1217 (by decide +kernel)))) (
  am_fc (am_okv 189 (by decide +kernel) (by decide) (am_mem 1922 (by decide +kernel)) (am_mem 1923 (by decide +kernel)) (am_mem 1924 (by decide +kernel))) (
  am_fc (am_okv 124 (by decide +kernel) (by decide) (am_mem 1599 (by decide +kernel)) (am_mem 1600 (by decide +kernel)) (am_mem 1601 (by decide +kernel))) (
  am_fc (am_oks 190 (by decide +kernel) (by decide) (am_mem 1230 (by decide +kernel)) (Or.inl (am_mem 1229 (by decide +kernel)))) (
  am_fc (am_okv 192 (by decide +kernel) (by decide) (am_mem 1934 (by decide +kernel)) (am_mem 1935 (by decide +kernel)) (am_mem 1936 (by decide +kernel))) (
  am_fc (am_okv 124 (by decide +kernel) (by decide) (am_mem 1599 (by decide +kernel)) (am_mem 1600 (by decide +kernel)) (am_mem 1601 (by decide +kernel))) (
  am_fc (am_oks 193 (by decide +kernel) (by decide) (am_mem 1245 (by decide +kernel)) (Or.inl (am_mem 1244 (by decide +kernel)))) (
  am_fc (am_okv 195 (by decide +kernel) (by decide) (am_mem 1938 (by decide +kernel)) (am_mem 1939 (by decide +kernel)) (am_mem 1940 (by decide +kernel))) (
  am_fc (am_okv 124 (by decide +kernel) (by decide) (am_mem 1599 (by decide +kernel)) (am_mem 1600 (by decide +kernel)) (am_mem 1601 (by decide +kernel))) (
  am_fc (am_oks 196 (by decide +kernel) (by decide) (am_mem 1253 (by decide +kernel)) (Or.inl (am_mem 1252 (by decide +kernel)))) (
  am_fc (am_okv 198 (by decide +kernel) (by decide) (am_mem 1942 (by decide +kernel)) (am_mem 1943 (by decide +kernel)) (am_mem 1944 (by decide +kernel))) (
  am_fc (am_okv 124 (by decide +kernel) (by decide) (am_mem 1599 (by decide +kernel)) (am_mem 1600 (by decide +kernel)) (am_mem 1601 (by decide +kernel))) (
  am_fc (am_oks 199 (by decide +kernel) (by decide) (am_mem 1264 (by decide +kernel)) (Or.inl (am_mem 1263 (by decide +kernel)))) (
  am_fc (am_okv 201 (by decide +kernel) (by decide) (am_mem 1950 (by decide +kernel)) (am_mem 1951 (by decide +kernel)) (am_mem 1952 (by decide +kernel))) (
  am_fc (am_okv 124 (by decide +kernel) (by decide) (am_mem 1599 (by decide +kernel)) (am_mem 1600 (by decide +kernel)) (am_mem 1601 (by decide +kernel))) (
  am_fc (am_oks 202 (by decide +kernel) (by decide) (am_mem 1275 (by decide +kernel)) (Or.inl (am_mem 1274 (by decide +kernel)))) (
  am_fc (am_okv 204 (by decide +kernel) (by decide) (am_mem 1958 (by decide +kernel)) (am_mem 1959 (by decide +kernel)) (am_mem 1960 (by decide +kernel))) (
  am_fc (am_okv 124 (by decide +kernel) (by decide) (am_mem 1599 (by decide +kernel)) (am_mem 1600 (by decide +kernel)) (am_mem 1601 (by decide +kernel))) (
  am_fc (am_oks 205 (by decide +kernel) (by decide) (am_mem 1282 (by decide +kernel)) (Or.inl (am_mem 1281 (by decide +kernel)))) (
  am_fc (am_okv 208 (by decide +kernel) (by decide) (am_mem 1962 (by decide +kernel)) (am_mem 1963 (by decide +kernel)) (am_mem 1964 (by decide +kernel))) (
  am_fn))))))))))))))))))))))))))))))))))))))))
def am_l302_2 : List (Nat × Instr × Nat) := [(1848, .invokevirtual 157, 3), (1879, .invokevirtual 131, 3), (1883, .invokevirtual 252, 3), (1903, .invokestatic 295, 3), (1921, .invokevirtual 255, 3), (1927, .invokevirtual 157, 3), (1958, .invokevirtual 133, 3), (1962, .invokevirtual 256, 3), (1978, .invokestatic 296, 3), (1990, .invokevirtual 260, 3), (1996, .invokevirtual 157, 3), (2034, .invokestatic 297, 3), (2046, .invokevirtual 261, 3), (2052, .invokevirtual 157, 3), (2102, .invokestatic 298, 3), (2126, .invokevirtual 264, 3), (2132, .invokevirtual 157, 3), (2170, .invokestatic 299, 3), (2182, .invokevirtual 228, 3), (2188, .invokevirtual 157, 3), (2232, .invokestatic 300, 3), (2250, .invokevirtual 230, 3), (2256, .invokevirtual 157, 3), (2294, .invokestatic 301, 3), (2306, .invokevirtual 232, 3), (2312, .invokevirtual 157, 3), (2343, .invokevirtual 140, 3), (2347, .invokevirtual 265, 3), (2354, .invokevirtual 141, 3), (2358, .invokevirtual 266, 3)]
theorem am_ol302_2 : ∀ q ∈ am_l302_2, am_ok 302 q.1 q.2.1 q.2.2 := show ∀ q ∈ ([(1848, .invokevirtual 157, 3), (1879, .invokevirtual 131, 3), (1883, .invokevirtual 252, 3), (1903, .invokestatic 295, 3), (1921, .invokevirtual 255, 3), (1927, .invokevirtual 157, 3), (1958, .invokevirtual 133, 3), (1962, .invokevirtual 256, 3), (1978, .invokestatic 296, 3), (1990, .invokevirtual 260, 3), (1996, .invokevirtual 157, 3), (2034, .invokestatic 297, 3), (2046, .invokevirtual 261, 3), (2052, .invokevirtual 157, 3), (2102, .invokestatic 298, 3), (2126, .invokevirtual 264, 3), (2132, .invokevirtual 157, 3), (2170, .invokestatic 299, 3), (2182, .invokevirtual 228, 3), (2188, .invokevirtual 157, 3), (2232, .invokestatic 300, 3), (2250, .invokevirtual 230, 3), (2256, .invokevirtual 157, 3), (2294, .invokestatic 301, 3), (2306, .invokevirtual 232, 3), (2312, .invokevirtual 157, 3), (2343, .invokevirtual 140, 3), (2347, .invokevirtual 265, 3), (2354, .invokevirtual 141, 3), (2358, .invokevirtual 266, 3)] : List (Nat × Instr × Nat)), am_ok 302 q.1 q.2.1 q.2.2 from
  am_fc (am_okv 124 (by decide +kernel) (by decide) (am_mem 1599 (by decide +kernel)) (am_mem 1600 (by decide +kernel)) (am_mem 1601 (by decide +kernel))) (
  am_fc (am_okv 209 (by decide +kernel) (by decide) (am_mem 645 (by decide +kernel)) (am_mem 646 (by decide +kernel)) (am_mem 647 (by decide +kernel))) (
  am_fc (am_okv 212 (by decide +kernel) (by decide) (am_mem 1966 (by decide +kernel)) (am_mem 1967 (by decide +kernel)) (am_mem 1968 (by decide +kernel))) (
  am_fc (am_oks 213 (by decide +kernel) (by decide) (am_mem 1293 (by decide +kernel)) (Or.inl (am_mem 1292 (by decide +kernel)))) (
  am_fc (am_okv 215 (by decide +kernel) (by decide) (am_mem 1970 (by decide +kernel)) (am_mem 1971 (by decide +kernel)) (am_mem 1972 (by decide +kernel))) (
  am_fc (am_okv 124 (by decide +kernel) (by decide) (am_mem 1599 (by decide +kernel)) (am_mem 1600 (by decide +kernel)) (am_mem 1601 (by decide +kernel))) (
  am_fc (am_okv 216 (by decide +kernel) (by decide) (am_mem 649 (by decide +kernel)) (am_mem 650 (by decide +kernel)) (am_mem 651 (by decide +kernel))) (
  am_fc (am_okv 219 (by decide +kernel) (by decide) (am_mem 1982 (by decide +kernel)) (am_mem 1983 (by decide +kernel)) (am_mem 1984 (by decide +kernel))) (
  am_fc (am_oks 220 (by decide +kernel) (by decide) (am_mem 1301 (by decide +kernel)) (Or.inl (am_mem 1300 (by decide +kernel)))) (
  am_fc (am_okv 222 (by decide +kernel) (by decide) (am_mem 1986 (by decide +kernel)) (am_mem 1987 (by decide +kernel)) (am_mem 1988 (by decide +kernel))) (
  am_fc (am_okv 124 (by decide +kernel) (by decide) (am_mem 1599 (by decide +kernel)) (am_mem 1600 (by decide +kernel)) (am_mem 1601 (by decide +kernel))) (
  am_fc (am_oks 223 (by decide +kernel) (by decide) (am_mem 1330 (by decide +kernel)) (Or.inl (am_mem 1329 (by decide +kernel)))) (
  am_fc (am_okv 225 (by decide +kernel) (by decide) (am_mem 2002 (by decide +kernel)) (am_mem 2003 (by decide +kernel)) (am_mem 2004 (by decide +kernel))) (
  am_fc (am_okv 124 (by decide +kernel) (by decide) (am_mem 1599 (by decide +kernel)) (am_mem 1600 (by decide +kernel)) (am_mem 1601 (by decide +kernel))) (
  am_fc (am_oks 226 (by decide +kernel) (by decide) (am_mem 1338 (by decide +kernel)) (Or.inl (am_mem 1337 (by decide +kernel)))) (
  am_fc (am_okv 228 (by decide +kernel) (by decide) (am_mem 2006 (by decide +kernel)) (am_mem 2007 (by decide +kernel)) (am_mem 2008 (by decide +kernel))) (
  am_fc (am_okv 124 (by decide +kernel) (by decide) (am_mem 1599 (by decide +kernel)) (am_mem 1600 (by decide +kernel)) (am_mem 1601 (by decide +kernel))) (
  am_fc (am_oks 229 (by decide +kernel) (by decide) (am_mem 1361 (by decide +kernel)) (Or.inl (am_mem 1360 (by decide +kernel)))) (
  am_fc (am_okv 231 (by decide +kernel) (by decide) (am_mem 1866 (by decide +kernel)) (am_mem 1867 (by decide +kernel)) (am_mem 1868 (by decide +kernel))) (
  am_fc (am_okv 124 (by decide +kernel) (by decide) (am_mem 1599 (by decide +kernel)) (am_mem 1600 (by decide +kernel)) (am_mem 1601 (by decide +kernel))) (
  am_fc (am_oks 232 (by decide +kernel) (by decide) (am_mem 1371 (by decide +kernel)) (Or.inl (am_mem 1370 (by decide +kernel)))) (
  am_fc (am_okv 234 (by decide +kernel) (by decide) (am_mem 1870 (by decide +kernel)) (am_mem 1871 (by decide +kernel)) (am_mem 1872 (by decide +kernel))) (
  am_fc (am_okv 124 (by decide +kernel) (by decide) (am_mem 1599 (by decide +kernel)) (am_mem 1600 (by decide +kernel)) (am_mem 1601 (by decide +kernel))) (
  am_fc (am_oks 235 (by decide +kernel) (by decide) (am_mem 1378 (by decide +kernel)) (Or.inl (am_mem 1377 (by decide +kernel)))) (
  am_fc (am_okv 237 (by decide +kernel) (by decide) (am_mem 1878 (by decide +kernel)) (am_mem 1879 (by decide +kernel)) (am_mem 1880 (by decide +kernel))) (
  am_fc (am_okv 124 (by decide +kernel) (by decide) (am_mem 1599 (by decide +kernel)) (am_mem 1600 (by decide +kernel)) (am_mem 1601 (by decide +kernel))) (
  am_fc (am_okv 238 (by decide +kernel) (by decide) (am_mem 679 (by decide +kernel)) (am_mem 680 (by decide +kernel)) (am_mem 681 (by decide +kernel))) (
  am_fc (am_okv 241 (by decide +kernel) (by decide) (am_mem 2019 (by decide +kernel)) (am_mem 2020 (by decide +kernel)) (am_mem 2021 (by decide +kernel))) (
  am_fc (am_okv 242 (by decide +kernel) (by decide) (am_mem 695 (by decide +kernel)) (am_mem 696 (by decide +kernel)) (am_mem 697 (by decide +kernel))) (
  am_fc (am_okv 246 (by decide +kernel) (by decide) (am_mem 2023 (by decide +kernel)) (am_mem 2024 (by decide +kernel)) (am_mem 2025 (by decide +kernel))) (
  am_fn))))))))))))))))))))))))))))))
