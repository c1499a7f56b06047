theorem dL_law_1260 : decode cL_law 1260 = .ok (.iconst 0, 1) := by decide +kernel
theorem dL_law_1261 : decode cL_law 1261 = .ok (.ireturn, 1) := by decide +kernel
theorem dL_law_1262 : decode cL_law 1262 = .ok (.aload_n 1, 1) := by decide +kernel
theorem dL_law_1263 : decode cL_law 1263 = .ok (.aload_n 0, 1) := by decide +kernel
theorem dL_law_1264 : decode cL_law 1264 = .ok (.iload 4, 2) := by decide +kernel
theorem dL_law_1266 : decode cL_law 1266 = .ok (.iconst 1, 1) := by decide +kernel
theorem dL_law_1267 : decode cL_law 1267 = .ok (.iadd, 1) := by decide +kernel
theorem dL_law_1268 : decode cL_law 1268 = .ok (.iaload, 1) := by decide +kernel
theorem dL_law_1269 : decode cL_law 1269 = .ok (.invokevirtual 170, 3) := by decide +kernel
theorem dL_law_1272 : decode cL_law 1272 = .ok (.aload_n 2, 1) := by decide +kernel
theorem dL_law_1273 : decode cL_law 1273 = .ok (.aload_n 0, 1) := by decide +kernel
theorem dL_law_1274 : decode cL_law 1274 = .ok (.iload 4, 2) := by decide +kernel
theorem dL_law_1276 : decode cL_law 1276 = .ok (.iconst 1, 1) := by decide +kernel
theorem dL_law_1277 : decode cL_law 1277 = .ok (.iadd, 1) := by decide +kernel
theorem dL_law_1278 : decode cL_law 1278 = .ok (.iaload, 1) := by decide +kernel
theorem dL_law_1279 : decode cL_law 1279 = .ok (.invokevirtual 173, 3) := by decide +kernel
theorem dL_law_1282 : decode cL_law 1282 = .ok (.if_icmp .eq 5, 3) := by decide +kernel
theorem dL_law_1285 : decode cL_law 1285 = .ok (.iconst 0, 1) := by decide +kernel
theorem dL_law_1286 : decode cL_law 1286 = .ok (.ireturn, 1) := by decide +kernel
theorem dL_law_1287 : decode cL_law 1287 = .ok (.iinc 4 6, 3) := by decide +kernel
theorem dL_law_1290 : decode cL_law 1290 = .ok (.goto (-1267), 3) := by decide +kernel
theorem dL_law_1293 : decode cL_law 1293 = .ok (.iconst 1, 1) := by decide +kernel
theorem dL_law_1294 : decode cL_law 1294 = .ok (.ireturn, 1) := by decide +kernel
