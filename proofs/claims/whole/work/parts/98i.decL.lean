theorem dL_law_2250 : decode cL_law 2250 = .ok (.iload 6, 2) := by decide +kernel
theorem dL_law_2252 : decode cL_law 2252 = .ok (.ifCond .ne 15, 3) := by decide +kernel
theorem dL_law_2255 : decode cL_law 2255 = .ok (.aload_n 3, 1) := by decide +kernel
theorem dL_law_2256 : decode cL_law 2256 = .ok (.iconst 0, 1) := by decide +kernel
theorem dL_law_2257 : decode cL_law 2257 = .ok (.laload, 1) := by decide +kernel
theorem dL_law_2258 : decode cL_law 2258 = .ok (.iload 7, 2) := by decide +kernel
theorem dL_law_2260 : decode cL_law 2260 = .ok (.i2l, 1) := by decide +kernel
theorem dL_law_2261 : decode cL_law 2261 = .ok (.lcmp, 1) := by decide +kernel
theorem dL_law_2262 : decode cL_law 2262 = .ok (.ifCond .eq 5, 3) := by decide +kernel
theorem dL_law_2265 : decode cL_law 2265 = .ok (.iconst 0, 1) := by decide +kernel
theorem dL_law_2266 : decode cL_law 2266 = .ok (.ireturn, 1) := by decide +kernel
theorem dL_law_2267 : decode cL_law 2267 = .ok (.goto 722, 3) := by decide +kernel
theorem dL_law_2270 : decode cL_law 2270 = .ok (.aload_n 1, 1) := by decide +kernel
theorem dL_law_2271 : decode cL_law 2271 = .ok (.aload_n 0, 1) := by decide +kernel
theorem dL_law_2272 : decode cL_law 2272 = .ok (.iload 5, 2) := by decide +kernel
theorem dL_law_2274 : decode cL_law 2274 = .ok (.iconst 1, 1) := by decide +kernel
theorem dL_law_2275 : decode cL_law 2275 = .ok (.iadd, 1) := by decide +kernel
theorem dL_law_2276 : decode cL_law 2276 = .ok (.iaload, 1) := by decide +kernel
theorem dL_law_2277 : decode cL_law 2277 = .ok (.aload_n 3, 1) := by decide +kernel
theorem dL_law_2278 : decode cL_law 2278 = .ok (.invokestatic 245, 3) := by decide +kernel
theorem dL_law_2281 : decode cL_law 2281 = .ok (.istore 6, 2) := by decide +kernel
theorem dL_law_2283 : decode cL_law 2283 = .ok (.aload_n 2, 1) := by decide +kernel
theorem dL_law_2284 : decode cL_law 2284 = .ok (.aload_n 0, 1) := by decide +kernel
theorem dL_law_2285 : decode cL_law 2285 = .ok (.iload 5, 2) := by decide +kernel
theorem dL_law_2287 : decode cL_law 2287 = .ok (.iconst 1, 1) := by decide +kernel
theorem dL_law_2288 : decode cL_law 2288 = .ok (.iadd, 1) := by decide +kernel
theorem dL_law_2289 : decode cL_law 2289 = .ok (.iaload, 1) := by decide +kernel
theorem dL_law_2290 : decode cL_law 2290 = .ok (.invokevirtual 247, 3) := by decide +kernel
theorem dL_law_2293 : decode cL_law 2293 = .ok (.istore 7, 2) := by decide +kernel
theorem dL_law_2295 : decode cL_law 2295 = .ok (.aload_n 2, 1) := by decide +kernel
theorem dL_law_2296 : decode cL_law 2296 = .ok (.invokevirtual 158, 3) := by decide +kernel
theorem dL_law_2299 : decode cL_law 2299 = .ok (.iload 6, 2) := by decide +kernel
theorem dL_law_2301 : decode cL_law 2301 = .ok (.if_icmp .eq 5, 3) := by decide +kernel
theorem dL_law_2304 : decode cL_law 2304 = .ok (.iconst 0, 1) := by decide +kernel
theorem dL_law_2305 : decode cL_law 2305 = .ok (.ireturn, 1) := by decide +kernel
theorem dL_law_2306 : decode cL_law 2306 = .ok (.iload 6, 2) := by decide +kernel
theorem dL_law_2308 : decode cL_law 2308 = .ok (.ifCond .ne 15, 3) := by decide +kernel
theorem dL_law_2311 : decode cL_law 2311 = .ok (.aload_n 3, 1) := by decide +kernel
theorem dL_law_2312 : decode cL_law 2312 = .ok (.iconst 0, 1) := by decide +kernel
theorem dL_law_2313 : decode cL_law 2313 = .ok (.laload, 1) := by decide +kernel
theorem dL_law_2314 : decode cL_law 2314 = .ok (.iload 7, 2) := by decide +kernel
theorem dL_law_2316 : decode cL_law 2316 = .ok (.i2l, 1) := by decide +kernel
theorem dL_law_2317 : decode cL_law 2317 = .ok (.lcmp, 1) := by decide +kernel
theorem dL_law_2318 : decode cL_law 2318 = .ok (.ifCond .eq 5, 3) := by decide +kernel
theorem dL_law_2321 : decode cL_law 2321 = .ok (.iconst 0, 1) := by decide +kernel
theorem dL_law_2322 : decode cL_law 2322 = .ok (.ireturn, 1) := by decide +kernel
theorem dL_law_2323 : decode cL_law 2323 = .ok (.goto 666, 3) := by decide +kernel
theorem dL_law_2326 : decode cL_law 2326 = .ok (.aload_n 1, 1) := by decide +kernel
theorem dL_law_2327 : decode cL_law 2327 = .ok (.aload_n 0, 1) := by decide +kernel
theorem dL_law_2328 : decode cL_law 2328 = .ok (.iload 5, 2) := by decide +kernel
theorem dL_law_2330 : decode cL_law 2330 = .ok (.iconst 1, 1) := by decide +kernel
theorem dL_law_2331 : decode cL_law 2331 = .ok (.iadd, 1) := by decide +kernel
theorem dL_law_2332 : decode cL_law 2332 = .ok (.iaload, 1) := by decide +kernel
theorem dL_law_2333 : decode cL_law 2333 = .ok (.aload_n 3, 1) := by decide +kernel
theorem dL_law_2334 : decode cL_law 2334 = .ok (.invokestatic 248, 3) := by decide +kernel
theorem dL_law_2337 : decode cL_law 2337 = .ok (.istore 6, 2) := by decide +kernel
theorem dL_law_2339 : decode cL_law 2339 = .ok (.aload_n 2, 1) := by decide +kernel
theorem dL_law_2340 : decode cL_law 2340 = .ok (.aload_n 0, 1) := by decide +kernel
theorem dL_law_2341 : decode cL_law 2341 = .ok (.iload 5, 2) := by decide +kernel
theorem dL_law_2343 : decode cL_law 2343 = .ok (.iconst 1, 1) := by decide +kernel
theorem dL_law_2344 : decode cL_law 2344 = .ok (.iadd, 1) := by decide +kernel
theorem dL_law_2345 : decode cL_law 2345 = .ok (.iaload, 1) := by decide +kernel
theorem dL_law_2346 : decode cL_law 2346 = .ok (.invokevirtual 250, 3) := by decide +kernel
theorem dL_law_2349 : decode cL_law 2349 = .ok (.istore 7, 2) := by decide +kernel
theorem dL_law_2351 : decode cL_law 2351 = .ok (.aload_n 2, 1) := by decide +kernel
theorem dL_law_2352 : decode cL_law 2352 = .ok (.invokevirtual 158, 3) := by decide +kernel
theorem dL_law_2355 : decode cL_law 2355 = .ok (.iload 6, 2) := by decide +kernel
theorem dL_law_2357 : decode cL_law 2357 = .ok (.if_icmp .eq 5, 3) := by decide +kernel
theorem dL_law_2360 : decode cL_law 2360 = .ok (.iconst 0, 1) := by decide +kernel
theorem dL_law_2361 : decode cL_law 2361 = .ok (.ireturn, 1) := by decide +kernel
theorem dL_law_2362 : decode cL_law 2362 = .ok (.iload 6, 2) := by decide +kernel
theorem dL_law_2364 : decode cL_law 2364 = .ok (.ifCond .ne 15, 3) := by decide +kernel
theorem dL_law_2367 : decode cL_law 2367 = .ok (.aload_n 3, 1) := by decide +kernel
theorem dL_law_2368 : decode cL_law 2368 = .ok (.iconst 0, 1) := by decide +kernel
theorem dL_law_2369 : decode cL_law 2369 = .ok (.laload, 1) := by decide +kernel
theorem dL_law_2370 : decode cL_law 2370 = .ok (.iload 7, 2) := by decide +kernel
theorem dL_law_2372 : decode cL_law 2372 = .ok (.i2l, 1) := by decide +kernel
theorem dL_law_2373 : decode cL_law 2373 = .ok (.lcmp, 1) := by decide +kernel
theorem dL_law_2374 : decode cL_law 2374 = .ok (.ifCond .eq 5, 3) := by decide +kernel
theorem dL_law_2377 : decode cL_law 2377 = .ok (.iconst 0, 1) := by decide +kernel
theorem dL_law_2378 : decode cL_law 2378 = .ok (.ireturn, 1) := by decide +kernel
theorem dL_law_2379 : decode cL_law 2379 = .ok (.goto 610, 3) := by decide +kernel
theorem dL_law_2382 : decode cL_law 2382 = .ok (.aload_n 1, 1) := by decide +kernel
theorem dL_law_2383 : decode cL_law 2383 = .ok (.aload_n 0, 1) := by decide +kernel
theorem dL_law_2384 : decode cL_law 2384 = .ok (.iload 5, 2) := by decide +kernel
theorem dL_law_2386 : decode cL_law 2386 = .ok (.iconst 1, 1) := by decide +kernel
theorem dL_law_2387 : decode cL_law 2387 = .ok (.iadd, 1) := by decide +kernel
theorem dL_law_2388 : decode cL_law 2388 = .ok (.iaload, 1) := by decide +kernel
theorem dL_law_2389 : decode cL_law 2389 = .ok (.aload_n 0, 1) := by decide +kernel
theorem dL_law_2390 : decode cL_law 2390 = .ok (.iload 5, 2) := by decide +kernel
theorem dL_law_2392 : decode cL_law 2392 = .ok (.iconst 2, 1) := by decide +kernel
theorem dL_law_2393 : decode cL_law 2393 = .ok (.iadd, 1) := by decide +kernel
theorem dL_law_2394 : decode cL_law 2394 = .ok (.iaload, 1) := by decide +kernel
theorem dL_law_2395 : decode cL_law 2395 = .ok (.aload_n 0, 1) := by decide +kernel
theorem dL_law_2396 : decode cL_law 2396 = .ok (.iload 5, 2) := by decide +kernel
theorem dL_law_2398 : decode cL_law 2398 = .ok (.iconst 3, 1) := by decide +kernel
theorem dL_law_2399 : decode cL_law 2399 = .ok (.iadd, 1) := by decide +kernel
theorem dL_law_2400 : decode cL_law 2400 = .ok (.iaload, 1) := by decide +kernel
theorem dL_law_2401 : decode cL_law 2401 = .ok (.aload_n 0, 1) := by decide +kernel
theorem dL_law_2402 : decode cL_law 2402 = .ok (.iload 5, 2) := by decide +kernel
theorem dL_law_2404 : decode cL_law 2404 = .ok (.iconst 4, 1) := by decide +kernel
theorem dL_law_2405 : decode cL_law 2405 = .ok (.iadd, 1) := by decide +kernel
theorem dL_law_2406 : decode cL_law 2406 = .ok (.iaload, 1) := by decide +kernel
theorem dL_law_2407 : decode cL_law 2407 = .ok (.aload_n 3, 1) := by decide +kernel
theorem dL_law_2408 : decode cL_law 2408 = .ok (.invokestatic 251, 3) := by decide +kernel
theorem dL_law_2411 : decode cL_law 2411 = .ok (.istore 6, 2) := by decide +kernel
theorem dL_law_2413 : decode cL_law 2413 = .ok (.aload_n 2, 1) := by decide +kernel
theorem dL_law_2414 : decode cL_law 2414 = .ok (.aload_n 0, 1) := by decide +kernel
theorem dL_law_2415 : decode cL_law 2415 = .ok (.iload 5, 2) := by decide +kernel
theorem dL_law_2417 : decode cL_law 2417 = .ok (.iconst 1, 1) := by decide +kernel
theorem dL_law_2418 : decode cL_law 2418 = .ok (.iadd, 1) := by decide +kernel
theorem dL_law_2419 : decode cL_law 2419 = .ok (.iaload, 1) := by decide +kernel
theorem dL_law_2420 : decode cL_law 2420 = .ok (.aload_n 0, 1) := by decide +kernel
theorem dL_law_2421 : decode cL_law 2421 = .ok (.iload 5, 2) := by decide +kernel
theorem dL_law_2423 : decode cL_law 2423 = .ok (.iconst 2, 1) := by decide +kernel
theorem dL_law_2424 : decode cL_law 2424 = .ok (.iadd, 1) := by decide +kernel
theorem dL_law_2425 : decode cL_law 2425 = .ok (.iaload, 1) := by decide +kernel
theorem dL_law_2426 : decode cL_law 2426 = .ok (.aload_n 0, 1) := by decide +kernel
theorem dL_law_2427 : decode cL_law 2427 = .ok (.iload 5, 2) := by decide +kernel
theorem dL_law_2429 : decode cL_law 2429 = .ok (.iconst 3, 1) := by decide +kernel
theorem dL_law_2430 : decode cL_law 2430 = .ok (.iadd, 1) := by decide +kernel
theorem dL_law_2431 : decode cL_law 2431 = .ok (.iaload, 1) := by decide +kernel
theorem dL_law_2432 : decode cL_law 2432 = .ok (.aload_n 0, 1) := by decide +kernel
theorem dL_law_2433 : decode cL_law 2433 = .ok (.iload 5, 2) := by decide +kernel
theorem dL_law_2435 : decode cL_law 2435 = .ok (.iconst 4, 1) := by decide +kernel
theorem dL_law_2436 : decode cL_law 2436 = .ok (.iadd, 1) := by decide +kernel
theorem dL_law_2437 : decode cL_law 2437 = .ok (.iaload, 1) := by decide +kernel
theorem dL_law_2438 : decode cL_law 2438 = .ok (.invokevirtual 254, 3) := by decide +kernel
theorem dL_law_2441 : decode cL_law 2441 = .ok (.istore 7, 2) := by decide +kernel
theorem dL_law_2443 : decode cL_law 2443 = .ok (.aload_n 2, 1) := by decide +kernel
theorem dL_law_2444 : decode cL_law 2444 = .ok (.invokevirtual 158, 3) := by decide +kernel
theorem dL_law_2447 : decode cL_law 2447 = .ok (.iload 6, 2) := by decide +kernel
theorem dL_law_2449 : decode cL_law 2449 = .ok (.if_icmp .eq 5, 3) := by decide +kernel
theorem dL_law_2452 : decode cL_law 2452 = .ok (.iconst 0, 1) := by decide +kernel
theorem dL_law_2453 : decode cL_law 2453 = .ok (.ireturn, 1) := by decide +kernel
theorem dL_law_2454 : decode cL_law 2454 = .ok (.iload 6, 2) := by decide +kernel
theorem dL_law_2456 : decode cL_law 2456 = .ok (.ifCond .ne 15, 3) := by decide +kernel
theorem dL_law_2459 : decode cL_law 2459 = .ok (.aload_n 3, 1) := by decide +kernel
theorem dL_law_2460 : decode cL_law 2460 = .ok (.iconst 0, 1) := by decide +kernel
theorem dL_law_2461 : decode cL_law 2461 = .ok (.laload, 1) := by decide +kernel
theorem dL_law_2462 : decode cL_law 2462 = .ok (.iload 7, 2) := by decide +kernel
theorem dL_law_2464 : decode cL_law 2464 = .ok (.i2l, 1) := by decide +kernel
theorem dL_law_2465 : decode cL_law 2465 = .ok (.lcmp, 1) := by decide +kernel
theorem dL_law_2466 : decode cL_law 2466 = .ok (.ifCond .eq 5, 3) := by decide +kernel
theorem dL_law_2469 : decode cL_law 2469 = .ok (.iconst 0, 1) := by decide +kernel
theorem dL_law_2470 : decode cL_law 2470 = .ok (.ireturn, 1) := by decide +kernel
theorem dL_law_2471 : decode cL_law 2471 = .ok (.goto 518, 3) := by decide +kernel
theorem dL_law_2474 : decode cL_law 2474 = .ok (.aload_n 1, 1) := by decide +kernel
theorem dL_law_2475 : decode cL_law 2475 = .ok (.aload_n 0, 1) := by decide +kernel
theorem dL_law_2476 : decode cL_law 2476 = .ok (.iload 5, 2) := by decide +kernel
theorem dL_law_2478 : decode cL_law 2478 = .ok (.iconst 1, 1) := by decide +kernel
theorem dL_law_2479 : decode cL_law 2479 = .ok (.iadd, 1) := by decide +kernel
theorem dL_law_2480 : decode cL_law 2480 = .ok (.iaload, 1) := by decide +kernel
theorem dL_law_2481 : decode cL_law 2481 = .ok (.aload_n 3, 1) := by decide +kernel
theorem dL_law_2482 : decode cL_law 2482 = .ok (.invokestatic 255, 3) := by decide +kernel
theorem dL_law_2485 : decode cL_law 2485 = .ok (.istore 6, 2) := by decide +kernel
theorem dL_law_2487 : decode cL_law 2487 = .ok (.aload_n 2, 1) := by decide +kernel
theorem dL_law_2488 : decode cL_law 2488 = .ok (.aload_n 0, 1) := by decide +kernel
theorem dL_law_2489 : decode cL_law 2489 = .ok (.iload 5, 2) := by decide +kernel
theorem dL_law_2491 : decode cL_law 2491 = .ok (.iconst 1, 1) := by decide +kernel
theorem dL_law_2492 : decode cL_law 2492 = .ok (.iadd, 1) := by decide +kernel
theorem dL_law_2493 : decode cL_law 2493 = .ok (.iaload, 1) := by decide +kernel
theorem dL_law_2494 : decode cL_law 2494 = .ok (.invokevirtual 257, 3) := by decide +kernel
theorem dL_law_2497 : decode cL_law 2497 = .ok (.istore 7, 2) := by decide +kernel
theorem dL_law_2499 : decode cL_law 2499 = .ok (.aload_n 2, 1) := by decide +kernel
theorem dL_law_2500 : decode cL_law 2500 = .ok (.invokevirtual 158, 3) := by decide +kernel
theorem dL_law_2503 : decode cL_law 2503 = .ok (.iload 6, 2) := by decide +kernel
theorem dL_law_2505 : decode cL_law 2505 = .ok (.if_icmp .eq 5, 3) := by decide +kernel
theorem dL_law_2508 : decode cL_law 2508 = .ok (.iconst 0, 1) := by decide +kernel
theorem dL_law_2509 : decode cL_law 2509 = .ok (.ireturn, 1) := by decide +kernel
theorem dL_law_2510 : decode cL_law 2510 = .ok (.iload 6, 2) := by decide +kernel
theorem dL_law_2512 : decode cL_law 2512 = .ok (.ifCond .ne 15, 3) := by decide +kernel
theorem dL_law_2515 : decode cL_law 2515 = .ok (.aload_n 3, 1) := by decide +kernel
theorem dL_law_2516 : decode cL_law 2516 = .ok (.iconst 0, 1) := by decide +kernel
theorem dL_law_2517 : decode cL_law 2517 = .ok (.laload, 1) := by decide +kernel
theorem dL_law_2518 : decode cL_law 2518 = .ok (.iload 7, 2) := by decide +kernel
theorem dL_law_2520 : decode cL_law 2520 = .ok (.i2l, 1) := by decide +kernel
theorem dL_law_2521 : decode cL_law 2521 = .ok (.lcmp, 1) := by decide +kernel
theorem dL_law_2522 : decode cL_law 2522 = .ok (.ifCond .eq 5, 3) := by decide +kernel
theorem dL_law_2525 : decode cL_law 2525 = .ok (.iconst 0, 1) := by decide +kernel
theorem dL_law_2526 : decode cL_law 2526 = .ok (.ireturn, 1) := by decide +kernel
theorem dL_law_2527 : decode cL_law 2527 = .ok (.goto 462, 3) := by decide +kernel
theorem dL_law_2530 : decode cL_law 2530 = .ok (.aload_n 1, 1) := by decide +kernel
theorem dL_law_2531 : decode cL_law 2531 = .ok (.aload_n 0, 1) := by decide +kernel
theorem dL_law_2532 : decode cL_law 2532 = .ok (.iload 5, 2) := by decide +kernel
theorem dL_law_2534 : decode cL_law 2534 = .ok (.iconst 1, 1) := by decide +kernel
theorem dL_law_2535 : decode cL_law 2535 = .ok (.iadd, 1) := by decide +kernel
theorem dL_law_2536 : decode cL_law 2536 = .ok (.iaload, 1) := by decide +kernel
theorem dL_law_2537 : decode cL_law 2537 = .ok (.aload_n 0, 1) := by decide +kernel
theorem dL_law_2538 : decode cL_law 2538 = .ok (.iload 5, 2) := by decide +kernel
theorem dL_law_2540 : decode cL_law 2540 = .ok (.iconst 2, 1) := by decide +kernel
theorem dL_law_2541 : decode cL_law 2541 = .ok (.iadd, 1) := by decide +kernel
theorem dL_law_2542 : decode cL_law 2542 = .ok (.iaload, 1) := by decide +kernel
theorem dL_law_2543 : decode cL_law 2543 = .ok (.aload_n 3, 1) := by decide +kernel
theorem dL_law_2544 : decode cL_law 2544 = .ok (.invokestatic 258, 3) := by decide +kernel
theorem dL_law_2547 : decode cL_law 2547 = .ok (.istore 6, 2) := by decide +kernel
theorem dL_law_2549 : decode cL_law 2549 = .ok (.aload_n 2, 1) := by decide +kernel
theorem dL_law_2550 : decode cL_law 2550 = .ok (.aload_n 0, 1) := by decide +kernel
theorem dL_law_2551 : decode cL_law 2551 = .ok (.iload 5, 2) := by decide +kernel
theorem dL_law_2553 : decode cL_law 2553 = .ok (.iconst 1, 1) := by decide +kernel
theorem dL_law_2554 : decode cL_law 2554 = .ok (.iadd, 1) := by decide +kernel
theorem dL_law_2555 : decode cL_law 2555 = .ok (.iaload, 1) := by decide +kernel
theorem dL_law_2556 : decode cL_law 2556 = .ok (.aload_n 0, 1) := by decide +kernel
theorem dL_law_2557 : decode cL_law 2557 = .ok (.iload 5, 2) := by decide +kernel
theorem dL_law_2559 : decode cL_law 2559 = .ok (.iconst 2, 1) := by decide +kernel
theorem dL_law_2560 : decode cL_law 2560 = .ok (.iadd, 1) := by decide +kernel
theorem dL_law_2561 : decode cL_law 2561 = .ok (.iaload, 1) := by decide +kernel
theorem dL_law_2562 : decode cL_law 2562 = .ok (.invokevirtual 260, 3) := by decide +kernel
theorem dL_law_2565 : decode cL_law 2565 = .ok (.istore 7, 2) := by decide +kernel
theorem dL_law_2567 : decode cL_law 2567 = .ok (.aload_n 2, 1) := by decide +kernel
theorem dL_law_2568 : decode cL_law 2568 = .ok (.invokevirtual 158, 3) := by decide +kernel
theorem dL_law_2571 : decode cL_law 2571 = .ok (.iload 6, 2) := by decide +kernel
theorem dL_law_2573 : decode cL_law 2573 = .ok (.if_icmp .eq 5, 3) := by decide +kernel
theorem dL_law_2576 : decode cL_law 2576 = .ok (.iconst 0, 1) := by decide +kernel
theorem dL_law_2577 : decode cL_law 2577 = .ok (.ireturn, 1) := by decide +kernel
theorem dL_law_2578 : decode cL_law 2578 = .ok (.iload 6, 2) := by decide +kernel
theorem dL_law_2580 : decode cL_law 2580 = .ok (.ifCond .ne 15, 3) := by decide +kernel
theorem dL_law_2583 : decode cL_law 2583 = .ok (.aload_n 3, 1) := by decide +kernel
theorem dL_law_2584 : decode cL_law 2584 = .ok (.iconst 0, 1) := by decide +kernel
theorem dL_law_2585 : decode cL_law 2585 = .ok (.laload, 1) := by decide +kernel
theorem dL_law_2586 : decode cL_law 2586 = .ok (.iload 7, 2) := by decide +kernel
theorem dL_law_2588 : decode cL_law 2588 = .ok (.i2l, 1) := by decide +kernel
theorem dL_law_2589 : decode cL_law 2589 = .ok (.lcmp, 1) := by decide +kernel
theorem dL_law_2590 : decode cL_law 2590 = .ok (.ifCond .eq 5, 3) := by decide +kernel
theorem dL_law_2593 : decode cL_law 2593 = .ok (.iconst 0, 1) := by decide +kernel
theorem dL_law_2594 : decode cL_law 2594 = .ok (.ireturn, 1) := by decide +kernel
theorem dL_law_2595 : decode cL_law 2595 = .ok (.goto 394, 3) := by decide +kernel
theorem dL_law_2598 : decode cL_law 2598 = .ok (.aload_n 1, 1) := by decide +kernel
theorem dL_law_2599 : decode cL_law 2599 = .ok (.aload 4, 2) := by decide +kernel
theorem dL_law_2601 : decode cL_law 2601 = .ok (.invokestatic 261, 3) := by decide +kernel
theorem dL_law_2604 : decode cL_law 2604 = .ok (.istore 6, 2) := by decide +kernel
theorem dL_law_2606 : decode cL_law 2606 = .ok (.aload_n 2, 1) := by decide +kernel
theorem dL_law_2607 : decode cL_law 2607 = .ok (.invokevirtual 264, 3) := by decide +kernel
theorem dL_law_2610 : decode cL_law 2610 = .ok (.dstore 7, 2) := by decide +kernel
theorem dL_law_2612 : decode cL_law 2612 = .ok (.aload_n 2, 1) := by decide +kernel
theorem dL_law_2613 : decode cL_law 2613 = .ok (.invokevirtual 158, 3) := by decide +kernel
theorem dL_law_2616 : decode cL_law 2616 = .ok (.iload 6, 2) := by decide +kernel
theorem dL_law_2618 : decode cL_law 2618 = .ok (.if_icmp .eq 5, 3) := by decide +kernel
theorem dL_law_2621 : decode cL_law 2621 = .ok (.iconst 0, 1) := by decide +kernel
theorem dL_law_2622 : decode cL_law 2622 = .ok (.ireturn, 1) := by decide +kernel
theorem dL_law_2623 : decode cL_law 2623 = .ok (.iload 6, 2) := by decide +kernel
theorem dL_law_2625 : decode cL_law 2625 = .ok (.ifCond .ne 35, 3) := by decide +kernel
theorem dL_law_2628 : decode cL_law 2628 = .ok (.aload 4, 2) := by decide +kernel
theorem dL_law_2630 : decode cL_law 2630 = .ok (.iconst 0, 1) := by decide +kernel
theorem dL_law_2631 : decode cL_law 2631 = .ok (.daload, 1) := by decide +kernel
theorem dL_law_2632 : decode cL_law 2632 = .ok (.dload 7, 2) := by decide +kernel
theorem dL_law_2634 : decode cL_law 2634 = .ok (.dcmp .l, 1) := by decide +kernel
theorem dL_law_2635 : decode cL_law 2635 = .ok (.ifCond .eq 25, 3) := by decide +kernel
theorem dL_law_2638 : decode cL_law 2638 = .ok (.aload 4, 2) := by decide +kernel
theorem dL_law_2640 : decode cL_law 2640 = .ok (.iconst 0, 1) := by decide +kernel
theorem dL_law_2641 : decode cL_law 2641 = .ok (.daload, 1) := by decide +kernel
theorem dL_law_2642 : decode cL_law 2642 = .ok (.aload 4, 2) := by decide +kernel
theorem dL_law_2644 : decode cL_law 2644 = .ok (.iconst 0, 1) := by decide +kernel
theorem dL_law_2645 : decode cL_law 2645 = .ok (.daload, 1) := by decide +kernel
theorem dL_law_2646 : decode cL_law 2646 = .ok (.dcmp .l, 1) := by decide +kernel
theorem dL_law_2647 : decode cL_law 2647 = .ok (.ifCond .eq 11, 3) := by decide +kernel
theorem dL_law_2650 : decode cL_law 2650 = .ok (.dload 7, 2) := by decide +kernel
theorem dL_law_2652 : decode cL_law 2652 = .ok (.dload 7, 2) := by decide +kernel
theorem dL_law_2654 : decode cL_law 2654 = .ok (.dcmp .l, 1) := by decide +kernel
theorem dL_law_2655 : decode cL_law 2655 = .ok (.ifCond .ne 5, 3) := by decide +kernel
theorem dL_law_2658 : decode cL_law 2658 = .ok (.iconst 0, 1) := by decide +kernel
theorem dL_law_2659 : decode cL_law 2659 = .ok (.ireturn, 1) := by decide +kernel
theorem dL_law_2660 : decode cL_law 2660 = .ok (.goto 329, 3) := by decide +kernel
theorem dL_law_2663 : decode cL_law 2663 = .ok (.aload_n 1, 1) := by decide +kernel
theorem dL_law_2664 : decode cL_law 2664 = .ok (.aload_n 0, 1) := by decide +kernel
theorem dL_law_2665 : decode cL_law 2665 = .ok (.iload 5, 2) := by decide +kernel
theorem dL_law_2667 : decode cL_law 2667 = .ok (.iconst 1, 1) := by decide +kernel
theorem dL_law_2668 : decode cL_law 2668 = .ok (.iadd, 1) := by decide +kernel
theorem dL_law_2669 : decode cL_law 2669 = .ok (.iaload, 1) := by decide +kernel
theorem dL_law_2670 : decode cL_law 2670 = .ok (.aload_n 3, 1) := by decide +kernel
theorem dL_law_2671 : decode cL_law 2671 = .ok (.invokestatic 265, 3) := by decide +kernel
theorem dL_law_2674 : decode cL_law 2674 = .ok (.istore 6, 2) := by decide +kernel
theorem dL_law_2676 : decode cL_law 2676 = .ok (.aload_n 2, 1) := by decide +kernel
theorem dL_law_2677 : decode cL_law 2677 = .ok (.aload_n 0, 1) := by decide +kernel
theorem dL_law_2678 : decode cL_law 2678 = .ok (.iload 5, 2) := by decide +kernel
theorem dL_law_2680 : decode cL_law 2680 = .ok (.iconst 1, 1) := by decide +kernel
theorem dL_law_2681 : decode cL_law 2681 = .ok (.iadd, 1) := by decide +kernel
theorem dL_law_2682 : decode cL_law 2682 = .ok (.iaload, 1) := by decide +kernel
theorem dL_law_2683 : decode cL_law 2683 = .ok (.invokevirtual 267, 3) := by decide +kernel
theorem dL_law_2686 : decode cL_law 2686 = .ok (.istore 7, 2) := by decide +kernel
theorem dL_law_2688 : decode cL_law 2688 = .ok (.aload_n 2, 1) := by decide +kernel
theorem dL_law_2689 : decode cL_law 2689 = .ok (.invokevirtual 158, 3) := by decide +kernel
theorem dL_law_2692 : decode cL_law 2692 = .ok (.iload 6, 2) := by decide +kernel
theorem dL_law_2694 : decode cL_law 2694 = .ok (.if_icmp .eq 5, 3) := by decide +kernel
theorem dL_law_2697 : decode cL_law 2697 = .ok (.iconst 0, 1) := by decide +kernel
theorem dL_law_2698 : decode cL_law 2698 = .ok (.ireturn, 1) := by decide +kernel
theorem dL_law_2699 : decode cL_law 2699 = .ok (.iload 6, 2) := by decide +kernel
theorem dL_law_2701 : decode cL_law 2701 = .ok (.ifCond .ne 15, 3) := by decide +kernel
theorem dL_law_2704 : decode cL_law 2704 = .ok (.aload_n 3, 1) := by decide +kernel
theorem dL_law_2705 : decode cL_law 2705 = .ok (.iconst 0, 1) := by decide +kernel
theorem dL_law_2706 : decode cL_law 2706 = .ok (.laload, 1) := by decide +kernel
theorem dL_law_2707 : decode cL_law 2707 = .ok (.iload 7, 2) := by decide +kernel
theorem dL_law_2709 : decode cL_law 2709 = .ok (.i2l, 1) := by decide +kernel
theorem dL_law_2710 : decode cL_law 2710 = .ok (.lcmp, 1) := by decide +kernel
theorem dL_law_2711 : decode cL_law 2711 = .ok (.ifCond .eq 5, 3) := by decide +kernel
theorem dL_law_2714 : decode cL_law 2714 = .ok (.iconst 0, 1) := by decide +kernel
theorem dL_law_2715 : decode cL_law 2715 = .ok (.ireturn, 1) := by decide +kernel
theorem dL_law_2716 : decode cL_law 2716 = .ok (.goto 273, 3) := by decide +kernel
theorem dL_law_2719 : decode cL_law 2719 = .ok (.aload_n 1, 1) := by decide +kernel
theorem dL_law_2720 : decode cL_law 2720 = .ok (.aload_n 3, 1) := by decide +kernel
theorem dL_law_2721 : decode cL_law 2721 = .ok (.invokestatic 268, 3) := by decide +kernel
theorem dL_law_2724 : decode cL_law 2724 = .ok (.istore 6, 2) := by decide +kernel
theorem dL_law_2726 : decode cL_law 2726 = .ok (.aload_n 2, 1) := by decide +kernel
theorem dL_law_2727 : decode cL_law 2727 = .ok (.invokevirtual 270, 3) := by decide +kernel
theorem dL_law_2730 : decode cL_law 2730 = .ok (.istore 7, 2) := by decide +kernel
theorem dL_law_2732 : decode cL_law 2732 = .ok (.aload_n 2, 1) := by decide +kernel
theorem dL_law_2733 : decode cL_law 2733 = .ok (.invokevirtual 158, 3) := by decide +kernel
theorem dL_law_2736 : decode cL_law 2736 = .ok (.iload 6, 2) := by decide +kernel
theorem dL_law_2738 : decode cL_law 2738 = .ok (.if_icmp .eq 5, 3) := by decide +kernel
theorem dL_law_2741 : decode cL_law 2741 = .ok (.iconst 0, 1) := by decide +kernel
theorem dL_law_2742 : decode cL_law 2742 = .ok (.ireturn, 1) := by decide +kernel
theorem dL_law_2743 : decode cL_law 2743 = .ok (.iload 6, 2) := by decide +kernel
theorem dL_law_2745 : decode cL_law 2745 = .ok (.ifCond .ne 15, 3) := by decide +kernel
theorem dL_law_2748 : decode cL_law 2748 = .ok (.aload_n 3, 1) := by decide +kernel
theorem dL_law_2749 : decode cL_law 2749 = .ok (.iconst 0, 1) := by decide +kernel
theorem dL_law_2750 : decode cL_law 2750 = .ok (.laload, 1) := by decide +kernel
theorem dL_law_2751 : decode cL_law 2751 = .ok (.iload 7, 2) := by decide +kernel
theorem dL_law_2753 : decode cL_law 2753 = .ok (.i2l, 1) := by decide +kernel
theorem dL_law_2754 : decode cL_law 2754 = .ok (.lcmp, 1) := by decide +kernel
theorem dL_law_2755 : decode cL_law 2755 = .ok (.ifCond .eq 5, 3) := by decide +kernel
theorem dL_law_2758 : decode cL_law 2758 = .ok (.iconst 0, 1) := by decide +kernel
theorem dL_law_2759 : decode cL_law 2759 = .ok (.ireturn, 1) := by decide +kernel
theorem dL_law_2760 : decode cL_law 2760 = .ok (.goto 229, 3) := by decide +kernel
theorem dL_law_2763 : decode cL_law 2763 = .ok (.aload_n 1, 1) := by decide +kernel
theorem dL_law_2764 : decode cL_law 2764 = .ok (.invokevirtual 271, 3) := by decide +kernel
theorem dL_law_2767 : decode cL_law 2767 = .ok (.aload_n 2, 1) := by decide +kernel
theorem dL_law_2768 : decode cL_law 2768 = .ok (.invokevirtual 274, 3) := by decide +kernel
theorem dL_law_2771 : decode cL_law 2771 = .ok (.if_icmp .eq 218, 3) := by decide +kernel
theorem dL_law_2774 : decode cL_law 2774 = .ok (.iconst 0, 1) := by decide +kernel
theorem dL_law_2775 : decode cL_law 2775 = .ok (.ireturn, 1) := by decide +kernel
theorem dL_law_2776 : decode cL_law 2776 = .ok (.aload_n 1, 1) := by decide +kernel
theorem dL_law_2777 : decode cL_law 2777 = .ok (.aload_n 0, 1) := by decide +kernel
theorem dL_law_2778 : decode cL_law 2778 = .ok (.iload 5, 2) := by decide +kernel
theorem dL_law_2780 : decode cL_law 2780 = .ok (.iconst 1, 1) := by decide +kernel
theorem dL_law_2781 : decode cL_law 2781 = .ok (.iadd, 1) := by decide +kernel
theorem dL_law_2782 : decode cL_law 2782 = .ok (.iaload, 1) := by decide +kernel
theorem dL_law_2783 : decode cL_law 2783 = .ok (.aload_n 3, 1) := by decide +kernel
theorem dL_law_2784 : decode cL_law 2784 = .ok (.invokestatic 275, 3) := by decide +kernel
theorem dL_law_2787 : decode cL_law 2787 = .ok (.istore 6, 2) := by decide +kernel
theorem dL_law_2789 : decode cL_law 2789 = .ok (.aload_n 2, 1) := by decide +kernel
theorem dL_law_2790 : decode cL_law 2790 = .ok (.aload_n 0, 1) := by decide +kernel
theorem dL_law_2791 : decode cL_law 2791 = .ok (.iload 5, 2) := by decide +kernel
theorem dL_law_2793 : decode cL_law 2793 = .ok (.iconst 1, 1) := by decide +kernel
theorem dL_law_2794 : decode cL_law 2794 = .ok (.iadd, 1) := by decide +kernel
theorem dL_law_2795 : decode cL_law 2795 = .ok (.iaload, 1) := by decide +kernel
theorem dL_law_2796 : decode cL_law 2796 = .ok (.invokevirtual 277, 3) := by decide +kernel
theorem dL_law_2799 : decode cL_law 2799 = .ok (.istore 7, 2) := by decide +kernel
theorem dL_law_2801 : decode cL_law 2801 = .ok (.aload_n 2, 1) := by decide +kernel
theorem dL_law_2802 : decode cL_law 2802 = .ok (.invokevirtual 158, 3) := by decide +kernel
theorem dL_law_2805 : decode cL_law 2805 = .ok (.iload 6, 2) := by decide +kernel
theorem dL_law_2807 : decode cL_law 2807 = .ok (.if_icmp .eq 5, 3) := by decide +kernel
theorem dL_law_2810 : decode cL_law 2810 = .ok (.iconst 0, 1) := by decide +kernel
theorem dL_law_2811 : decode cL_law 2811 = .ok (.ireturn, 1) := by decide +kernel
theorem dL_law_2812 : decode cL_law 2812 = .ok (.iload 6, 2) := by decide +kernel
theorem dL_law_2814 : decode cL_law 2814 = .ok (.ifCond .ne 15, 3) := by decide +kernel
theorem dL_law_2817 : decode cL_law 2817 = .ok (.aload_n 3, 1) := by decide +kernel
theorem dL_law_2818 : decode cL_law 2818 = .ok (.iconst 0, 1) := by decide +kernel
theorem dL_law_2819 : decode cL_law 2819 = .ok (.laload, 1) := by decide +kernel
theorem dL_law_2820 : decode cL_law 2820 = .ok (.iload 7, 2) := by decide +kernel
theorem dL_law_2822 : decode cL_law 2822 = .ok (.i2l, 1) := by decide +kernel
theorem dL_law_2823 : decode cL_law 2823 = .ok (.lcmp, 1) := by decide +kernel
theorem dL_law_2824 : decode cL_law 2824 = .ok (.ifCond .eq 5, 3) := by decide +kernel
theorem dL_law_2827 : decode cL_law 2827 = .ok (.iconst 0, 1) := by decide +kernel
theorem dL_law_2828 : decode cL_law 2828 = .ok (.ireturn, 1) := by decide +kernel
theorem dL_law_2829 : decode cL_law 2829 = .ok (.goto 160, 3) := by decide +kernel
theorem dL_law_2832 : decode cL_law 2832 = .ok (.aload_n 1, 1) := by decide +kernel
theorem dL_law_2833 : decode cL_law 2833 = .ok (.aload_n 0, 1) := by decide +kernel
theorem dL_law_2834 : decode cL_law 2834 = .ok (.iload 5, 2) := by decide +kernel
theorem dL_law_2836 : decode cL_law 2836 = .ok (.iconst 1, 1) := by decide +kernel
theorem dL_law_2837 : decode cL_law 2837 = .ok (.iadd, 1) := by decide +kernel
theorem dL_law_2838 : decode cL_law 2838 = .ok (.iaload, 1) := by decide +kernel
theorem dL_law_2839 : decode cL_law 2839 = .ok (.aload_n 3, 1) := by decide +kernel
theorem dL_law_2840 : decode cL_law 2840 = .ok (.invokestatic 278, 3) := by decide +kernel
theorem dL_law_2843 : decode cL_law 2843 = .ok (.istore 6, 2) := by decide +kernel
theorem dL_law_2845 : decode cL_law 2845 = .ok (.aload_n 2, 1) := by decide +kernel
theorem dL_law_2846 : decode cL_law 2846 = .ok (.aload_n 0, 1) := by decide +kernel
theorem dL_law_2847 : decode cL_law 2847 = .ok (.iload 5, 2) := by decide +kernel
theorem dL_law_2849 : decode cL_law 2849 = .ok (.iconst 1, 1) := by decide +kernel
theorem dL_law_2850 : decode cL_law 2850 = .ok (.iadd, 1) := by decide +kernel
theorem dL_law_2851 : decode cL_law 2851 = .ok (.iaload, 1) := by decide +kernel
theorem dL_law_2852 : decode cL_law 2852 = .ok (.invokevirtual 280, 3) := by decide +kernel
theorem dL_law_2855 : decode cL_law 2855 = .ok (.istore 7, 2) := by decide +kernel
theorem dL_law_2857 : decode cL_law 2857 = .ok (.aload_n 2, 1) := by decide +kernel
theorem dL_law_2858 : decode cL_law 2858 = .ok (.invokevirtual 158, 3) := by decide +kernel
theorem dL_law_2861 : decode cL_law 2861 = .ok (.iload 6, 2) := by decide +kernel
theorem dL_law_2863 : decode cL_law 2863 = .ok (.if_icmp .eq 5, 3) := by decide +kernel
theorem dL_law_2866 : decode cL_law 2866 = .ok (.iconst 0, 1) := by decide +kernel
theorem dL_law_2867 : decode cL_law 2867 = .ok (.ireturn, 1) := by decide +kernel
theorem dL_law_2868 : decode cL_law 2868 = .ok (.iload 6, 2) := by decide +kernel
theorem dL_law_2870 : decode cL_law 2870 = .ok (.ifCond .ne 15, 3) := by decide +kernel
theorem dL_law_2873 : decode cL_law 2873 = .ok (.aload_n 3, 1) := by decide +kernel
theorem dL_law_2874 : decode cL_law 2874 = .ok (.iconst 0, 1) := by decide +kernel
theorem dL_law_2875 : decode cL_law 2875 = .ok (.laload, 1) := by decide +kernel
theorem dL_law_2876 : decode cL_law 2876 = .ok (.iload 7, 2) := by decide +kernel
theorem dL_law_2878 : decode cL_law 2878 = .ok (.i2l, 1) := by decide +kernel
theorem dL_law_2879 : decode cL_law 2879 = .ok (.lcmp, 1) := by decide +kernel
theorem dL_law_2880 : decode cL_law 2880 = .ok (.ifCond .eq 5, 3) := by decide +kernel
theorem dL_law_2883 : decode cL_law 2883 = .ok (.iconst 0, 1) := by decide +kernel
theorem dL_law_2884 : decode cL_law 2884 = .ok (.ireturn, 1) := by decide +kernel
theorem dL_law_2885 : decode cL_law 2885 = .ok (.goto 104, 3) := by decide +kernel
theorem dL_law_2888 : decode cL_law 2888 = .ok (.aload_n 1, 1) := by decide +kernel
theorem dL_law_2889 : decode cL_law 2889 = .ok (.aload_n 3, 1) := by decide +kernel
theorem dL_law_2890 : decode cL_law 2890 = .ok (.invokestatic 281, 3) := by decide +kernel
theorem dL_law_2893 : decode cL_law 2893 = .ok (.istore 6, 2) := by decide +kernel
theorem dL_law_2895 : decode cL_law 2895 = .ok (.aload_n 2, 1) := by decide +kernel
theorem dL_law_2896 : decode cL_law 2896 = .ok (.invokevirtual 283, 3) := by decide +kernel
theorem dL_law_2899 : decode cL_law 2899 = .ok (.istore 7, 2) := by decide +kernel
theorem dL_law_2901 : decode cL_law 2901 = .ok (.aload_n 2, 1) := by decide +kernel
theorem dL_law_2902 : decode cL_law 2902 = .ok (.invokevirtual 158, 3) := by decide +kernel
theorem dL_law_2905 : decode cL_law 2905 = .ok (.iload 6, 2) := by decide +kernel
theorem dL_law_2907 : decode cL_law 2907 = .ok (.if_icmp .eq 5, 3) := by decide +kernel
theorem dL_law_2910 : decode cL_law 2910 = .ok (.iconst 0, 1) := by decide +kernel
theorem dL_law_2911 : decode cL_law 2911 = .ok (.ireturn, 1) := by decide +kernel
theorem dL_law_2912 : decode cL_law 2912 = .ok (.iload 6, 2) := by decide +kernel
theorem dL_law_2914 : decode cL_law 2914 = .ok (.ifCond .ne 15, 3) := by decide +kernel
theorem dL_law_2917 : decode cL_law 2917 = .ok (.aload_n 3, 1) := by decide +kernel
theorem dL_law_2918 : decode cL_law 2918 = .ok (.iconst 0, 1) := by decide +kernel
theorem dL_law_2919 : decode cL_law 2919 = .ok (.laload, 1) := by decide +kernel
theorem dL_law_2920 : decode cL_law 2920 = .ok (.iload 7, 2) := by decide +kernel
theorem dL_law_2922 : decode cL_law 2922 = .ok (.i2l, 1) := by decide +kernel
theorem dL_law_2923 : decode cL_law 2923 = .ok (.lcmp, 1) := by decide +kernel
theorem dL_law_2924 : decode cL_law 2924 = .ok (.ifCond .eq 5, 3) := by decide +kernel
theorem dL_law_2927 : decode cL_law 2927 = .ok (.iconst 0, 1) := by decide +kernel
theorem dL_law_2928 : decode cL_law 2928 = .ok (.ireturn, 1) := by decide +kernel
theorem dL_law_2929 : decode cL_law 2929 = .ok (.goto 60, 3) := by decide +kernel
theorem dL_law_2932 : decode cL_law 2932 = .ok (.aload_n 1, 1) := by decide +kernel
theorem dL_law_2933 : decode cL_law 2933 = .ok (.invokevirtual 284, 3) := by decide +kernel
theorem dL_law_2936 : decode cL_law 2936 = .ok (.aload_n 2, 1) := by decide +kernel
theorem dL_law_2937 : decode cL_law 2937 = .ok (.invokevirtual 287, 3) := by decide +kernel
theorem dL_law_2940 : decode cL_law 2940 = .ok (.if_icmp .eq 49, 3) := by decide +kernel
theorem dL_law_2943 : decode cL_law 2943 = .ok (.iconst 0, 1) := by decide +kernel
theorem dL_law_2944 : decode cL_law 2944 = .ok (.ireturn, 1) := by decide +kernel
theorem dL_law_2945 : decode cL_law 2945 = .ok (.aload_n 1, 1) := by decide +kernel
theorem dL_law_2946 : decode cL_law 2946 = .ok (.aload_n 3, 1) := by decide +kernel
theorem dL_law_2947 : decode cL_law 2947 = .ok (.invokestatic 288, 3) := by decide +kernel
theorem dL_law_2950 : decode cL_law 2950 = .ok (.istore 6, 2) := by decide +kernel
theorem dL_law_2952 : decode cL_law 2952 = .ok (.aload_n 2, 1) := by decide +kernel
theorem dL_law_2953 : decode cL_law 2953 = .ok (.invokevirtual 290, 3) := by decide +kernel
theorem dL_law_2956 : decode cL_law 2956 = .ok (.istore 7, 2) := by decide +kernel
theorem dL_law_2958 : decode cL_law 2958 = .ok (.aload_n 2, 1) := by decide +kernel
theorem dL_law_2959 : decode cL_law 2959 = .ok (.invokevirtual 158, 3) := by decide +kernel
theorem dL_law_2962 : decode cL_law 2962 = .ok (.iload 6, 2) := by decide +kernel
theorem dL_law_2964 : decode cL_law 2964 = .ok (.if_icmp .eq 5, 3) := by decide +kernel
theorem dL_law_2967 : decode cL_law 2967 = .ok (.iconst 0, 1) := by decide +kernel
theorem dL_law_2968 : decode cL_law 2968 = .ok (.ireturn, 1) := by decide +kernel
theorem dL_law_2969 : decode cL_law 2969 = .ok (.iload 6, 2) := by decide +kernel
theorem dL_law_2971 : decode cL_law 2971 = .ok (.ifCond .ne 15, 3) := by decide +kernel
theorem dL_law_2974 : decode cL_law 2974 = .ok (.aload_n 3, 1) := by decide +kernel
theorem dL_law_2975 : decode cL_law 2975 = .ok (.iconst 0, 1) := by decide +kernel
theorem dL_law_2976 : decode cL_law 2976 = .ok (.laload, 1) := by decide +kernel
theorem dL_law_2977 : decode cL_law 2977 = .ok (.iload 7, 2) := by decide +kernel
theorem dL_law_2979 : decode cL_law 2979 = .ok (.i2l, 1) := by decide +kernel
theorem dL_law_2980 : decode cL_law 2980 = .ok (.lcmp, 1) := by decide +kernel
theorem dL_law_2981 : decode cL_law 2981 = .ok (.ifCond .eq 5, 3) := by decide +kernel
theorem dL_law_2984 : decode cL_law 2984 = .ok (.iconst 0, 1) := by decide +kernel
theorem dL_law_2985 : decode cL_law 2985 = .ok (.ireturn, 1) := by decide +kernel
theorem dL_law_2986 : decode cL_law 2986 = .ok (.goto 3, 3) := by decide +kernel
theorem dL_law_2989 : decode cL_law 2989 = .ok (.iinc 5 6, 3) := by decide +kernel
theorem dL_law_2992 : decode cL_law 2992 = .ok (.goto (-2964), 3) := by decide +kernel
theorem dL_law_2995 : decode cL_law 2995 = .ok (.iconst 1, 1) := by decide +kernel
theorem dL_law_2996 : decode cL_law 2996 = .ok (.ireturn, 1) := by decide +kernel
