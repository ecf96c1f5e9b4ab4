theorem dL_law__2209 : decode code 2209 = .ok (.iconst 1, 1) := by decide +kernel
theorem dL_law__2210 : decode code 2210 = .ok (.iadd, 1) := by decide +kernel
theorem dL_law__2211 : decode code 2211 = .ok (.iaload, 1) := by decide +kernel
theorem dL_law__2212 : decode code 2212 = .ok (.aload_n 0, 1) := by decide +kernel
theorem dL_law__2213 : decode code 2213 = .ok (.iload 4, 2) := by decide +kernel
theorem dL_law__2215 : decode code 2215 = .ok (.iconst 2, 1) := by decide +kernel
theorem dL_law__2216 : decode code 2216 = .ok (.iadd, 1) := by decide +kernel
theorem dL_law__2217 : decode code 2217 = .ok (.iaload, 1) := by decide +kernel
theorem dL_law__2218 : decode code 2218 = .ok (.aload_n 0, 1) := by decide +kernel
theorem dL_law__2219 : decode code 2219 = .ok (.iload 4, 2) := by decide +kernel
theorem dL_law__2221 : decode code 2221 = .ok (.iconst 3, 1) := by decide +kernel
theorem dL_law__2222 : decode code 2222 = .ok (.iadd, 1) := by decide +kernel
theorem dL_law__2223 : decode code 2223 = .ok (.iaload, 1) := by decide +kernel
theorem dL_law__2224 : decode code 2224 = .ok (.aload_n 0, 1) := by decide +kernel
theorem dL_law__2225 : decode code 2225 = .ok (.iload 4, 2) := by decide +kernel
theorem dL_law__2227 : decode code 2227 = .ok (.iconst 4, 1) := by decide +kernel
theorem dL_law__2228 : decode code 2228 = .ok (.iadd, 1) := by decide +kernel
theorem dL_law__2229 : decode code 2229 = .ok (.iaload, 1) := by decide +kernel
theorem dL_law__2230 : decode code 2230 = .ok (.aload_n 3, 1) := by decide +kernel
theorem dL_law__2231 : decode code 2231 = .ok (.invokestatic 226, 3) := by decide +kernel
theorem dL_law__2234 : decode code 2234 = .ok (.istore 5, 2) := by decide +kernel
theorem dL_law__2236 : decode code 2236 = .ok (.aload_n 2, 1) := by decide +kernel
theorem dL_law__2237 : decode code 2237 = .ok (.aload_n 0, 1) := by decide +kernel
theorem dL_law__2238 : decode code 2238 = .ok (.iload 4, 2) := by decide +kernel
theorem dL_law__2240 : decode code 2240 = .ok (.iconst 1, 1) := by decide +kernel
theorem dL_law__2241 : decode code 2241 = .ok (.iadd, 1) := by decide +kernel
theorem dL_law__2242 : decode code 2242 = .ok (.iaload, 1) := by decide +kernel
theorem dL_law__2243 : decode code 2243 = .ok (.aload_n 0, 1) := by decide +kernel
theorem dL_law__2244 : decode code 2244 = .ok (.iload 4, 2) := by decide +kernel
theorem dL_law__2246 : decode code 2246 = .ok (.iconst 2, 1) := by decide +kernel
theorem dL_law__2247 : decode code 2247 = .ok (.iadd, 1) := by decide +kernel
theorem dL_law__2248 : decode code 2248 = .ok (.iaload, 1) := by decide +kernel
theorem dL_law__2249 : decode code 2249 = .ok (.aload_n 0, 1) := by decide +kernel
theorem dL_law__2250 : decode code 2250 = .ok (.iload 4, 2) := by decide +kernel
theorem dL_law__2252 : decode code 2252 = .ok (.iconst 3, 1) := by decide +kernel
theorem dL_law__2253 : decode code 2253 = .ok (.iadd, 1) := by decide +kernel
theorem dL_law__2254 : decode code 2254 = .ok (.iaload, 1) := by decide +kernel
theorem dL_law__2255 : decode code 2255 = .ok (.aload_n 0, 1) := by decide +kernel
theorem dL_law__2256 : decode code 2256 = .ok (.iload 4, 2) := by decide +kernel
theorem dL_law__2258 : decode code 2258 = .ok (.iconst 4, 1) := by decide +kernel
theorem dL_law__2259 : decode code 2259 = .ok (.iadd, 1) := by decide +kernel
theorem dL_law__2260 : decode code 2260 = .ok (.iaload, 1) := by decide +kernel
theorem dL_law__2261 : decode code 2261 = .ok (.invokevirtual 228, 3) := by decide +kernel
theorem dL_law__2264 : decode code 2264 = .ok (.istore 6, 2) := by decide +kernel
theorem dL_law__2266 : decode code 2266 = .ok (.aload_n 2, 1) := by decide +kernel
theorem dL_law__2267 : decode code 2267 = .ok (.invokevirtual 125, 3) := by decide +kernel
theorem dL_law__2270 : decode code 2270 = .ok (.iload 5, 2) := by decide +kernel
theorem dL_law__2272 : decode code 2272 = .ok (.if_icmp .eq 5, 3) := by decide +kernel
theorem dL_law__2277 : decode code 2277 = .ok (.iload 5, 2) := by decide +kernel
theorem dL_law__2279 : decode code 2279 = .ok (.ifCond .ne 15, 3) := by decide +kernel
theorem dL_law__2282 : decode code 2282 = .ok (.aload_n 3, 1) := by decide +kernel
theorem dL_law__2283 : decode code 2283 = .ok (.iconst 0, 1) := by decide +kernel
theorem dL_law__2284 : decode code 2284 = .ok (.laload, 1) := by decide +kernel
theorem dL_law__2285 : decode code 2285 = .ok (.iload 6, 2) := by decide +kernel
theorem dL_law__2287 : decode code 2287 = .ok (.i2l, 1) := by decide +kernel
theorem dL_law__2288 : decode code 2288 = .ok (.lcmp, 1) := by decide +kernel
theorem dL_law__2289 : decode code 2289 = .ok (.ifCond .eq 5, 3) := by decide +kernel
theorem dL_law__2294 : decode code 2294 = .ok (.goto 197, 3) := by decide +kernel
theorem dL_law__2297 : decode code 2297 = .ok (.aload_n 1, 1) := by decide +kernel
theorem dL_law__2298 : decode code 2298 = .ok (.aload_n 0, 1) := by decide +kernel
theorem dL_law__2299 : decode code 2299 = .ok (.iload 4, 2) := by decide +kernel
theorem dL_law__2301 : decode code 2301 = .ok (.iconst 1, 1) := by decide +kernel
theorem dL_law__2302 : decode code 2302 = .ok (.iadd, 1) := by decide +kernel
theorem dL_law__2303 : decode code 2303 = .ok (.iaload, 1) := by decide +kernel
theorem dL_law__2304 : decode code 2304 = .ok (.aload_n 0, 1) := by decide +kernel
theorem dL_law__2305 : decode code 2305 = .ok (.iload 4, 2) := by decide +kernel
theorem dL_law__2307 : decode code 2307 = .ok (.iconst 2, 1) := by decide +kernel
theorem dL_law__2308 : decode code 2308 = .ok (.iadd, 1) := by decide +kernel
theorem dL_law__2309 : decode code 2309 = .ok (.iaload, 1) := by decide +kernel
theorem dL_law__2310 : decode code 2310 = .ok (.aload_n 0, 1) := by decide +kernel
theorem dL_law__2311 : decode code 2311 = .ok (.iload 4, 2) := by decide +kernel
theorem dL_law__2313 : decode code 2313 = .ok (.iconst 3, 1) := by decide +kernel
theorem dL_law__2314 : decode code 2314 = .ok (.iadd, 1) := by decide +kernel
theorem dL_law__2315 : decode code 2315 = .ok (.iaload, 1) := by decide +kernel
theorem dL_law__2316 : decode code 2316 = .ok (.aload_n 0, 1) := by decide +kernel
theorem dL_law__2317 : decode code 2317 = .ok (.iload 4, 2) := by decide +kernel
theorem dL_law__2319 : decode code 2319 = .ok (.iconst 4, 1) := by decide +kernel
theorem dL_law__2320 : decode code 2320 = .ok (.iadd, 1) := by decide +kernel
theorem dL_law__2321 : decode code 2321 = .ok (.iaload, 1) := by decide +kernel
theorem dL_law__2322 : decode code 2322 = .ok (.aload_n 0, 1) := by decide +kernel
theorem dL_law__2323 : decode code 2323 = .ok (.iload 4, 2) := by decide +kernel
theorem dL_law__2325 : decode code 2325 = .ok (.iconst 5, 1) := by decide +kernel
theorem dL_law__2326 : decode code 2326 = .ok (.iadd, 1) := by decide +kernel
theorem dL_law__2327 : decode code 2327 = .ok (.iaload, 1) := by decide +kernel
theorem dL_law__2328 : decode code 2328 = .ok (.aload_n 0, 1) := by decide +kernel
theorem dL_law__2329 : decode code 2329 = .ok (.iload 4, 2) := by decide +kernel
theorem dL_law__2331 : decode code 2331 = .ok (.bipush 6, 2) := by decide +kernel
theorem dL_law__2333 : decode code 2333 = .ok (.iadd, 1) := by decide +kernel
theorem dL_law__2334 : decode code 2334 = .ok (.iaload, 1) := by decide +kernel
theorem dL_law__2335 : decode code 2335 = .ok (.aload_n 3, 1) := by decide +kernel
theorem dL_law__2336 : decode code 2336 = .ok (.invokestatic 229, 3) := by decide +kernel
theorem dL_law__2339 : decode code 2339 = .ok (.istore 5, 2) := by decide +kernel
theorem dL_law__2341 : decode code 2341 = .ok (.aload_n 2, 1) := by decide +kernel
theorem dL_law__2342 : decode code 2342 = .ok (.aload_n 0, 1) := by decide +kernel
theorem dL_law__2343 : decode code 2343 = .ok (.iload 4, 2) := by decide +kernel
theorem dL_law__2345 : decode code 2345 = .ok (.iconst 1, 1) := by decide +kernel
theorem dL_law__2346 : decode code 2346 = .ok (.iadd, 1) := by decide +kernel
theorem dL_law__2347 : decode code 2347 = .ok (.iaload, 1) := by decide +kernel
theorem dL_law__2348 : decode code 2348 = .ok (.aload_n 0, 1) := by decide +kernel
theorem dL_law__2349 : decode code 2349 = .ok (.iload 4, 2) := by decide +kernel
theorem dL_law__2351 : decode code 2351 = .ok (.iconst 2, 1) := by decide +kernel
theorem dL_law__2352 : decode code 2352 = .ok (.iadd, 1) := by decide +kernel
theorem dL_law__2353 : decode code 2353 = .ok (.iaload, 1) := by decide +kernel
theorem dL_law__2354 : decode code 2354 = .ok (.aload_n 0, 1) := by decide +kernel
theorem dL_law__2355 : decode code 2355 = .ok (.iload 4, 2) := by decide +kernel
theorem dL_law__2357 : decode code 2357 = .ok (.iconst 3, 1) := by decide +kernel
theorem dL_law__2358 : decode code 2358 = .ok (.iadd, 1) := by decide +kernel
theorem dL_law__2359 : decode code 2359 = .ok (.iaload, 1) := by decide +kernel
theorem dL_law__2360 : decode code 2360 = .ok (.aload_n 0, 1) := by decide +kernel
theorem dL_law__2361 : decode code 2361 = .ok (.iload 4, 2) := by decide +kernel
theorem dL_law__2363 : decode code 2363 = .ok (.iconst 4, 1) := by decide +kernel
theorem dL_law__2364 : decode code 2364 = .ok (.iadd, 1) := by decide +kernel
theorem dL_law__2365 : decode code 2365 = .ok (.iaload, 1) := by decide +kernel
theorem dL_law__2366 : decode code 2366 = .ok (.aload_n 0, 1) := by decide +kernel
theorem dL_law__2367 : decode code 2367 = .ok (.iload 4, 2) := by decide +kernel
theorem dL_law__2369 : decode code 2369 = .ok (.iconst 5, 1) := by decide +kernel
theorem dL_law__2370 : decode code 2370 = .ok (.iadd, 1) := by decide +kernel
theorem dL_law__2371 : decode code 2371 = .ok (.iaload, 1) := by decide +kernel
theorem dL_law__2372 : decode code 2372 = .ok (.aload_n 0, 1) := by decide +kernel
theorem dL_law__2373 : decode code 2373 = .ok (.iload 4, 2) := by decide +kernel
theorem dL_law__2375 : decode code 2375 = .ok (.bipush 6, 2) := by decide +kernel
theorem dL_law__2377 : decode code 2377 = .ok (.iadd, 1) := by decide +kernel
theorem dL_law__2378 : decode code 2378 = .ok (.iaload, 1) := by decide +kernel
theorem dL_law__2379 : decode code 2379 = .ok (.invokevirtual 232, 3) := by decide +kernel
theorem dL_law__2382 : decode code 2382 = .ok (.istore 6, 2) := by decide +kernel
theorem dL_law__2384 : decode code 2384 = .ok (.aload_n 2, 1) := by decide +kernel
theorem dL_law__2385 : decode code 2385 = .ok (.invokevirtual 125, 3) := by decide +kernel
theorem dL_law__2388 : decode code 2388 = .ok (.iload 5, 2) := by decide +kernel
theorem dL_law__2390 : decode code 2390 = .ok (.if_icmp .eq 5, 3) := by decide +kernel
theorem dL_law__2395 : decode code 2395 = .ok (.iload 5, 2) := by decide +kernel
theorem dL_law__2397 : decode code 2397 = .ok (.ifCond .ne 15, 3) := by decide +kernel
theorem dL_law__2400 : decode code 2400 = .ok (.aload_n 3, 1) := by decide +kernel
theorem dL_law__2401 : decode code 2401 = .ok (.iconst 0, 1) := by decide +kernel
theorem dL_law__2402 : decode code 2402 = .ok (.laload, 1) := by decide +kernel
theorem dL_law__2403 : decode code 2403 = .ok (.iload 6, 2) := by decide +kernel
theorem dL_law__2405 : decode code 2405 = .ok (.i2l, 1) := by decide +kernel
theorem dL_law__2406 : decode code 2406 = .ok (.lcmp, 1) := by decide +kernel
theorem dL_law__2407 : decode code 2407 = .ok (.ifCond .eq 5, 3) := by decide +kernel
theorem dL_law__2412 : decode code 2412 = .ok (.goto 79, 3) := by decide +kernel
theorem dL_law__2415 : decode code 2415 = .ok (.aload_n 1, 1) := by decide +kernel
theorem dL_law__2416 : decode code 2416 = .ok (.invokevirtual 233, 3) := by decide +kernel
theorem dL_law__2419 : decode code 2419 = .ok (.aload_n 2, 1) := by decide +kernel
theorem dL_law__2420 : decode code 2420 = .ok (.invokevirtual 236, 3) := by decide +kernel
theorem dL_law__2423 : decode code 2423 = .ok (.if_icmp .eq 68, 3) := by decide +kernel
theorem dL_law__2428 : decode code 2428 = .ok (.aload_n 1, 1) := by decide +kernel
theorem dL_law__2429 : decode code 2429 = .ok (.invokevirtual 237, 3) := by decide +kernel
theorem dL_law__2432 : decode code 2432 = .ok (.aload_n 2, 1) := by decide +kernel
theorem dL_law__2433 : decode code 2433 = .ok (.invokevirtual 240, 3) := by decide +kernel
theorem dL_law__2436 : decode code 2436 = .ok (.if_icmp .eq 55, 3) := by decide +kernel
theorem dL_law__2441 : decode code 2441 = .ok (.aload_n 1, 1) := by decide +kernel
theorem dL_law__2442 : decode code 2442 = .ok (.aload_n 0, 1) := by decide +kernel
theorem dL_law__2443 : decode code 2443 = .ok (.iload 4, 2) := by decide +kernel
theorem dL_law__2445 : decode code 2445 = .ok (.iconst 1, 1) := by decide +kernel
theorem dL_law__2446 : decode code 2446 = .ok (.iadd, 1) := by decide +kernel
theorem dL_law__2447 : decode code 2447 = .ok (.iaload, 1) := by decide +kernel
theorem dL_law__2448 : decode code 2448 = .ok (.invokevirtual 241, 3) := by decide +kernel
theorem dL_law__2451 : decode code 2451 = .ok (.aload_n 2, 1) := by decide +kernel
theorem dL_law__2452 : decode code 2452 = .ok (.aload_n 0, 1) := by decide +kernel
theorem dL_law__2453 : decode code 2453 = .ok (.iload 4, 2) := by decide +kernel
theorem dL_law__2455 : decode code 2455 = .ok (.iconst 1, 1) := by decide +kernel
theorem dL_law__2456 : decode code 2456 = .ok (.iadd, 1) := by decide +kernel
theorem dL_law__2457 : decode code 2457 = .ok (.iaload, 1) := by decide +kernel
theorem dL_law__2458 : decode code 2458 = .ok (.invokevirtual 244, 3) := by decide +kernel
theorem dL_law__2461 : decode code 2461 = .ok (.if_icmp .eq 30, 3) := by decide +kernel
theorem dL_law__2466 : decode code 2466 = .ok (.aload_n 1, 1) := by decide +kernel
theorem dL_law__2467 : decode code 2467 = .ok (.aload_n 0, 1) := by decide +kernel
theorem dL_law__2468 : decode code 2468 = .ok (.iload 4, 2) := by decide +kernel
theorem dL_law__2470 : decode code 2470 = .ok (.iconst 1, 1) := by decide +kernel
theorem dL_law__2471 : decode code 2471 = .ok (.iadd, 1) := by decide +kernel
theorem dL_law__2472 : decode code 2472 = .ok (.iaload, 1) := by decide +kernel
theorem dL_law__2473 : decode code 2473 = .ok (.invokevirtual 245, 3) := by decide +kernel
theorem dL_law__2476 : decode code 2476 = .ok (.aload_n 2, 1) := by decide +kernel
theorem dL_law__2477 : decode code 2477 = .ok (.aload_n 0, 1) := by decide +kernel
theorem dL_law__2478 : decode code 2478 = .ok (.iload 4, 2) := by decide +kernel
theorem dL_law__2480 : decode code 2480 = .ok (.iconst 1, 1) := by decide +kernel
theorem dL_law__2481 : decode code 2481 = .ok (.iadd, 1) := by decide +kernel
theorem dL_law__2482 : decode code 2482 = .ok (.iaload, 1) := by decide +kernel
theorem dL_law__2483 : decode code 2483 = .ok (.invokevirtual 248, 3) := by decide +kernel
theorem dL_law__2486 : decode code 2486 = .ok (.if_icmp .eq 5, 3) := by decide +kernel
