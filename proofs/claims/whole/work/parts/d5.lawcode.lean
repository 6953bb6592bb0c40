theorem dL_law__2316 : decode cL_law_ 2316 = .ok (.istore 5, 2) := by decide +kernel
theorem dL_law__2318 : decode cL_law_ 2318 = .ok (.aload_n 2, 1) := by decide +kernel
theorem dL_law__2319 : decode cL_law_ 2319 = .ok (.aload_n 0, 1) := by decide +kernel
theorem dL_law__2320 : decode cL_law_ 2320 = .ok (.iload 4, 2) := by decide +kernel
theorem dL_law__2322 : decode cL_law_ 2322 = .ok (.iconst 1, 1) := by decide +kernel
theorem dL_law__2323 : decode cL_law_ 2323 = .ok (.iadd, 1) := by decide +kernel
theorem dL_law__2324 : decode cL_law_ 2324 = .ok (.iaload, 1) := by decide +kernel
theorem dL_law__2325 : decode cL_law_ 2325 = .ok (.aload_n 0, 1) := by decide +kernel
theorem dL_law__2326 : decode cL_law_ 2326 = .ok (.iload 4, 2) := by decide +kernel
theorem dL_law__2328 : decode cL_law_ 2328 = .ok (.iconst 2, 1) := by decide +kernel
theorem dL_law__2329 : decode cL_law_ 2329 = .ok (.iadd, 1) := by decide +kernel
theorem dL_law__2330 : decode cL_law_ 2330 = .ok (.iaload, 1) := by decide +kernel
theorem dL_law__2331 : decode cL_law_ 2331 = .ok (.ifCond .eq 7, 3) := by decide +kernel
theorem dL_law__2334 : decode cL_law_ 2334 = .ok (.iconst 1, 1) := by decide +kernel
theorem dL_law__2335 : decode cL_law_ 2335 = .ok (.goto 4, 3) := by decide +kernel
theorem dL_law__2338 : decode cL_law_ 2338 = .ok (.iconst 0, 1) := by decide +kernel
theorem dL_law__2339 : decode cL_law_ 2339 = .ok (.invokevirtual 253, 3) := by decide +kernel
theorem dL_law__2342 : decode cL_law_ 2342 = .ok (.istore 6, 2) := by decide +kernel
theorem dL_law__2344 : decode cL_law_ 2344 = .ok (.aload_n 2, 1) := by decide +kernel
theorem dL_law__2345 : decode cL_law_ 2345 = .ok (.invokevirtual 136, 3) := by decide +kernel
theorem dL_law__2348 : decode cL_law_ 2348 = .ok (.iload 5, 2) := by decide +kernel
theorem dL_law__2350 : decode cL_law_ 2350 = .ok (.if_icmp .eq 5, 3) := by decide +kernel
theorem dL_law__2355 : decode cL_law_ 2355 = .ok (.iload 5, 2) := by decide +kernel
theorem dL_law__2357 : decode cL_law_ 2357 = .ok (.ifCond .ne 15, 3) := by decide +kernel
theorem dL_law__2360 : decode cL_law_ 2360 = .ok (.aload_n 3, 1) := by decide +kernel
theorem dL_law__2361 : decode cL_law_ 2361 = .ok (.iconst 0, 1) := by decide +kernel
theorem dL_law__2362 : decode cL_law_ 2362 = .ok (.laload, 1) := by decide +kernel
theorem dL_law__2363 : decode cL_law_ 2363 = .ok (.iload 6, 2) := by decide +kernel
theorem dL_law__2365 : decode cL_law_ 2365 = .ok (.i2l, 1) := by decide +kernel
theorem dL_law__2366 : decode cL_law_ 2366 = .ok (.lcmp, 1) := by decide +kernel
theorem dL_law__2367 : decode cL_law_ 2367 = .ok (.ifCond .eq 5, 3) := by decide +kernel
theorem dL_law__2372 : decode cL_law_ 2372 = .ok (.goto 242, 3) := by decide +kernel
theorem dL_law__2375 : decode cL_law_ 2375 = .ok (.aload_n 1, 1) := by decide +kernel
theorem dL_law__2376 : decode cL_law_ 2376 = .ok (.aload_n 0, 1) := by decide +kernel
theorem dL_law__2377 : decode cL_law_ 2377 = .ok (.iload 4, 2) := by decide +kernel
theorem dL_law__2379 : decode cL_law_ 2379 = .ok (.iconst 1, 1) := by decide +kernel
theorem dL_law__2380 : decode cL_law_ 2380 = .ok (.iadd, 1) := by decide +kernel
theorem dL_law__2381 : decode cL_law_ 2381 = .ok (.iaload, 1) := by decide +kernel
theorem dL_law__2382 : decode cL_law_ 2382 = .ok (.aload_n 0, 1) := by decide +kernel
theorem dL_law__2383 : decode cL_law_ 2383 = .ok (.iload 4, 2) := by decide +kernel
theorem dL_law__2385 : decode cL_law_ 2385 = .ok (.iconst 2, 1) := by decide +kernel
theorem dL_law__2386 : decode cL_law_ 2386 = .ok (.iadd, 1) := by decide +kernel
theorem dL_law__2387 : decode cL_law_ 2387 = .ok (.iaload, 1) := by decide +kernel
theorem dL_law__2388 : decode cL_law_ 2388 = .ok (.ifCond .eq 7, 3) := by decide +kernel
theorem dL_law__2391 : decode cL_law_ 2391 = .ok (.iconst 1, 1) := by decide +kernel
theorem dL_law__2392 : decode cL_law_ 2392 = .ok (.goto 4, 3) := by decide +kernel
theorem dL_law__2395 : decode cL_law_ 2395 = .ok (.iconst 0, 1) := by decide +kernel
theorem dL_law__2396 : decode cL_law_ 2396 = .ok (.aload_n 3, 1) := by decide +kernel
theorem dL_law__2397 : decode cL_law_ 2397 = .ok (.invokestatic 254, 3) := by decide +kernel
theorem dL_law__2400 : decode cL_law_ 2400 = .ok (.istore 5, 2) := by decide +kernel
theorem dL_law__2402 : decode cL_law_ 2402 = .ok (.aload_n 2, 1) := by decide +kernel
theorem dL_law__2403 : decode cL_law_ 2403 = .ok (.aload_n 0, 1) := by decide +kernel
theorem dL_law__2404 : decode cL_law_ 2404 = .ok (.iload 4, 2) := by decide +kernel
theorem dL_law__2406 : decode cL_law_ 2406 = .ok (.iconst 1, 1) := by decide +kernel
theorem dL_law__2407 : decode cL_law_ 2407 = .ok (.iadd, 1) := by decide +kernel
theorem dL_law__2408 : decode cL_law_ 2408 = .ok (.iaload, 1) := by decide +kernel
theorem dL_law__2409 : decode cL_law_ 2409 = .ok (.aload_n 0, 1) := by decide +kernel
theorem dL_law__2410 : decode cL_law_ 2410 = .ok (.iload 4, 2) := by decide +kernel
theorem dL_law__2412 : decode cL_law_ 2412 = .ok (.iconst 2, 1) := by decide +kernel
theorem dL_law__2413 : decode cL_law_ 2413 = .ok (.iadd, 1) := by decide +kernel
theorem dL_law__2414 : decode cL_law_ 2414 = .ok (.iaload, 1) := by decide +kernel
theorem dL_law__2415 : decode cL_law_ 2415 = .ok (.ifCond .eq 7, 3) := by decide +kernel
theorem dL_law__2418 : decode cL_law_ 2418 = .ok (.iconst 1, 1) := by decide +kernel
theorem dL_law__2419 : decode cL_law_ 2419 = .ok (.goto 4, 3) := by decide +kernel
theorem dL_law__2422 : decode cL_law_ 2422 = .ok (.iconst 0, 1) := by decide +kernel
theorem dL_law__2423 : decode cL_law_ 2423 = .ok (.invokevirtual 256, 3) := by decide +kernel
theorem dL_law__2426 : decode cL_law_ 2426 = .ok (.istore 6, 2) := by decide +kernel
theorem dL_law__2428 : decode cL_law_ 2428 = .ok (.aload_n 2, 1) := by decide +kernel
theorem dL_law__2429 : decode cL_law_ 2429 = .ok (.invokevirtual 136, 3) := by decide +kernel
theorem dL_law__2432 : decode cL_law_ 2432 = .ok (.iload 5, 2) := by decide +kernel
theorem dL_law__2434 : decode cL_law_ 2434 = .ok (.if_icmp .eq 5, 3) := by decide +kernel
theorem dL_law__2439 : decode cL_law_ 2439 = .ok (.iload 5, 2) := by decide +kernel
theorem dL_law__2441 : decode cL_law_ 2441 = .ok (.ifCond .ne 15, 3) := by decide +kernel
theorem dL_law__2444 : decode cL_law_ 2444 = .ok (.aload_n 3, 1) := by decide +kernel
theorem dL_law__2445 : decode cL_law_ 2445 = .ok (.iconst 0, 1) := by decide +kernel
theorem dL_law__2446 : decode cL_law_ 2446 = .ok (.laload, 1) := by decide +kernel
theorem dL_law__2447 : decode cL_law_ 2447 = .ok (.iload 6, 2) := by decide +kernel
theorem dL_law__2449 : decode cL_law_ 2449 = .ok (.i2l, 1) := by decide +kernel
theorem dL_law__2450 : decode cL_law_ 2450 = .ok (.lcmp, 1) := by decide +kernel
theorem dL_law__2451 : decode cL_law_ 2451 = .ok (.ifCond .eq 5, 3) := by decide +kernel
theorem dL_law__2456 : decode cL_law_ 2456 = .ok (.goto 158, 3) := by decide +kernel
theorem dL_law__2459 : decode cL_law_ 2459 = .ok (.aload_n 1, 1) := by decide +kernel
theorem dL_law__2460 : decode cL_law_ 2460 = .ok (.aload_n 0, 1) := by decide +kernel
theorem dL_law__2461 : decode cL_law_ 2461 = .ok (.iload 4, 2) := by decide +kernel
theorem dL_law__2463 : decode cL_law_ 2463 = .ok (.iconst 1, 1) := by decide +kernel
theorem dL_law__2464 : decode cL_law_ 2464 = .ok (.iadd, 1) := by decide +kernel
theorem dL_law__2465 : decode cL_law_ 2465 = .ok (.iaload, 1) := by decide +kernel
theorem dL_law__2466 : decode cL_law_ 2466 = .ok (.aload_n 0, 1) := by decide +kernel
theorem dL_law__2467 : decode cL_law_ 2467 = .ok (.iload 4, 2) := by decide +kernel
theorem dL_law__2469 : decode cL_law_ 2469 = .ok (.iconst 2, 1) := by decide +kernel
theorem dL_law__2470 : decode cL_law_ 2470 = .ok (.iadd, 1) := by decide +kernel
theorem dL_law__2471 : decode cL_law_ 2471 = .ok (.iaload, 1) := by decide +kernel
theorem dL_law__2472 : decode cL_law_ 2472 = .ok (.aload_n 3, 1) := by decide +kernel
theorem dL_law__2473 : decode cL_law_ 2473 = .ok (.invokestatic 257, 3) := by decide +kernel
theorem dL_law__2476 : decode cL_law_ 2476 = .ok (.istore 5, 2) := by decide +kernel
theorem dL_law__2478 : decode cL_law_ 2478 = .ok (.aload_n 2, 1) := by decide +kernel
theorem dL_law__2479 : decode cL_law_ 2479 = .ok (.aload_n 0, 1) := by decide +kernel
theorem dL_law__2480 : decode cL_law_ 2480 = .ok (.iload 4, 2) := by decide +kernel
theorem dL_law__2482 : decode cL_law_ 2482 = .ok (.iconst 1, 1) := by decide +kernel
theorem dL_law__2483 : decode cL_law_ 2483 = .ok (.iadd, 1) := by decide +kernel
theorem dL_law__2484 : decode cL_law_ 2484 = .ok (.iaload, 1) := by decide +kernel
theorem dL_law__2485 : decode cL_law_ 2485 = .ok (.aload_n 0, 1) := by decide +kernel
theorem dL_law__2486 : decode cL_law_ 2486 = .ok (.iload 4, 2) := by decide +kernel
theorem dL_law__2488 : decode cL_law_ 2488 = .ok (.iconst 2, 1) := by decide +kernel
theorem dL_law__2489 : decode cL_law_ 2489 = .ok (.iadd, 1) := by decide +kernel
theorem dL_law__2490 : decode cL_law_ 2490 = .ok (.iaload, 1) := by decide +kernel
theorem dL_law__2491 : decode cL_law_ 2491 = .ok (.invokevirtual 259, 3) := by decide +kernel
theorem dL_law__2494 : decode cL_law_ 2494 = .ok (.istore 6, 2) := by decide +kernel
theorem dL_law__2496 : decode cL_law_ 2496 = .ok (.aload_n 2, 1) := by decide +kernel
theorem dL_law__2497 : decode cL_law_ 2497 = .ok (.invokevirtual 136, 3) := by decide +kernel
theorem dL_law__2500 : decode cL_law_ 2500 = .ok (.iload 5, 2) := by decide +kernel
theorem dL_law__2502 : decode cL_law_ 2502 = .ok (.if_icmp .eq 5, 3) := by decide +kernel
theorem dL_law__2507 : decode cL_law_ 2507 = .ok (.iload 5, 2) := by decide +kernel
theorem dL_law__2509 : decode cL_law_ 2509 = .ok (.ifCond .ne 15, 3) := by decide +kernel
theorem dL_law__2512 : decode cL_law_ 2512 = .ok (.aload_n 3, 1) := by decide +kernel
theorem dL_law__2513 : decode cL_law_ 2513 = .ok (.iconst 0, 1) := by decide +kernel
theorem dL_law__2514 : decode cL_law_ 2514 = .ok (.laload, 1) := by decide +kernel
theorem dL_law__2515 : decode cL_law_ 2515 = .ok (.iload 6, 2) := by decide +kernel
theorem dL_law__2517 : decode cL_law_ 2517 = .ok (.i2l, 1) := by decide +kernel
theorem dL_law__2518 : decode cL_law_ 2518 = .ok (.lcmp, 1) := by decide +kernel
theorem dL_law__2519 : decode cL_law_ 2519 = .ok (.ifCond .eq 5, 3) := by decide +kernel
theorem dL_law__2524 : decode cL_law_ 2524 = .ok (.goto 90, 3) := by decide +kernel
theorem dL_law__2527 : decode cL_law_ 2527 = .ok (.aload_n 1, 1) := by decide +kernel
theorem dL_law__2528 : decode cL_law_ 2528 = .ok (.aload_n 0, 1) := by decide +kernel
theorem dL_law__2529 : decode cL_law_ 2529 = .ok (.iload 4, 2) := by decide +kernel
theorem dL_law__2531 : decode cL_law_ 2531 = .ok (.iconst 1, 1) := by decide +kernel
theorem dL_law__2532 : decode cL_law_ 2532 = .ok (.iadd, 1) := by decide +kernel
theorem dL_law__2533 : decode cL_law_ 2533 = .ok (.iaload, 1) := by decide +kernel
theorem dL_law__2534 : decode cL_law_ 2534 = .ok (.invokevirtual 260, 3) := by decide +kernel
theorem dL_law__2537 : decode cL_law_ 2537 = .ok (.aload_n 2, 1) := by decide +kernel
theorem dL_law__2538 : decode cL_law_ 2538 = .ok (.aload_n 0, 1) := by decide +kernel
theorem dL_law__2539 : decode cL_law_ 2539 = .ok (.iload 4, 2) := by decide +kernel
theorem dL_law__2541 : decode cL_law_ 2541 = .ok (.iconst 1, 1) := by decide +kernel
theorem dL_law__2542 : decode cL_law_ 2542 = .ok (.iadd, 1) := by decide +kernel
theorem dL_law__2543 : decode cL_law_ 2543 = .ok (.iaload, 1) := by decide +kernel
theorem dL_law__2544 : decode cL_law_ 2544 = .ok (.invokevirtual 263, 3) := by decide +kernel
theorem dL_law__2547 : decode cL_law_ 2547 = .ok (.if_icmp .eq 67, 3) := by decide +kernel
theorem dL_law__2552 : decode cL_law_ 2552 = .ok (.aload_n 1, 1) := by decide +kernel
theorem dL_law__2553 : decode cL_law_ 2553 = .ok (.invokevirtual 264, 3) := by decide +kernel
theorem dL_law__2556 : decode cL_law_ 2556 = .ok (.aload_n 2, 1) := by decide +kernel
theorem dL_law__2557 : decode cL_law_ 2557 = .ok (.invokevirtual 268, 3) := by decide +kernel
theorem dL_law__2560 : decode cL_law_ 2560 = .ok (.if_icmp .eq 54, 3) := by decide +kernel
theorem dL_law__2565 : decode cL_law_ 2565 = .ok (.aload_n 1, 1) := by decide +kernel
theorem dL_law__2566 : decode cL_law_ 2566 = .ok (.invokevirtual 269, 3) := by decide +kernel
theorem dL_law__2569 : decode cL_law_ 2569 = .ok (.aload_n 2, 1) := by decide +kernel
theorem dL_law__2570 : decode cL_law_ 2570 = .ok (.invokevirtual 272, 3) := by decide +kernel
theorem dL_law__2573 : decode cL_law_ 2573 = .ok (.goto 41, 3) := by decide +kernel
theorem dL_law__2576 : decode cL_law_ 2576 = .ok (.aload_n 1, 1) := by decide +kernel
theorem dL_law__2577 : decode cL_law_ 2577 = .ok (.invokevirtual 273, 3) := by decide +kernel
theorem dL_law__2580 : decode cL_law_ 2580 = .ok (.aload_n 2, 1) := by decide +kernel
theorem dL_law__2581 : decode cL_law_ 2581 = .ok (.invokevirtual 276, 3) := by decide +kernel
theorem dL_law__2584 : decode cL_law_ 2584 = .ok (.if_icmp .eq 30, 3) := by decide +kernel
theorem dL_law__2589 : decode cL_law_ 2589 = .ok (.aload_n 1, 1) := by decide +kernel
theorem dL_law__2590 : decode cL_law_ 2590 = .ok (.aload_n 0, 1) := by decide +kernel
theorem dL_law__2591 : decode cL_law_ 2591 = .ok (.iload 4, 2) := by decide +kernel
theorem dL_law__2593 : decode cL_law_ 2593 = .ok (.iconst 1, 1) := by decide +kernel
theorem dL_law__2594 : decode cL_law_ 2594 = .ok (.iadd, 1) := by decide +kernel
theorem dL_law__2595 : decode cL_law_ 2595 = .ok (.iaload, 1) := by decide +kernel
theorem dL_law__2596 : decode cL_law_ 2596 = .ok (.invokevirtual 277, 3) := by decide +kernel
theorem dL_law__2599 : decode cL_law_ 2599 = .ok (.aload_n 2, 1) := by decide +kernel
theorem dL_law__2600 : decode cL_law_ 2600 = .ok (.aload_n 0, 1) := by decide +kernel
theorem dL_law__2601 : decode cL_law_ 2601 = .ok (.iload 4, 2) := by decide +kernel
theorem dL_law__2603 : decode cL_law_ 2603 = .ok (.iconst 1, 1) := by decide +kernel
theorem dL_law__2604 : decode cL_law_ 2604 = .ok (.iadd, 1) := by decide +kernel
theorem dL_law__2605 : decode cL_law_ 2605 = .ok (.iaload, 1) := by decide +kernel
theorem dL_law__2606 : decode cL_law_ 2606 = .ok (.invokevirtual 280, 3) := by decide +kernel
theorem dL_law__2609 : decode cL_law_ 2609 = .ok (.if_icmp .eq 5, 3) := by decide +kernel
theorem dL_law__2614 : decode cL_law_ 2614 = .ok (.iinc 4 6, 3) := by decide +kernel
theorem dL_law__2617 : decode cL_law_ 2617 = .ok (.goto (-2594), 3) := by decide +kernel
theorem dL_law__2620 : decode cL_law_ 2620 = .ok (.iconst 1, 1) := by decide +kernel
theorem dL_law__2621 : decode cL_law_ 2621 = .ok (.ireturn, 1) := by decide +kernel
