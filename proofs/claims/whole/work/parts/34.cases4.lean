set_option maxRecDepth 512
theorem dL_law_2321 : decode cL_law 2321 = .ok (.aload_n 1, 1) := by decide +kernel
theorem dL_law_2322 : decode cL_law 2322 = .ok (.invokevirtual 282, 3) := by decide +kernel
theorem dL_law_2325 : decode cL_law 2325 = .ok (.f2d, 1) := by decide +kernel
theorem dL_law_2326 : decode cL_law 2326 = .ok (.dstore 6, 2) := by decide +kernel
theorem dL_law_2328 : decode cL_law 2328 = .ok (.aload_n 2, 1) := by decide +kernel
theorem dL_law_2329 : decode cL_law 2329 = .ok (.invokevirtual 286, 3) := by decide +kernel
theorem dL_law_2332 : decode cL_law 2332 = .ok (.f2d, 1) := by decide +kernel
theorem dL_law_2333 : decode cL_law 2333 = .ok (.dstore 8, 2) := by decide +kernel
theorem dL_law_2335 : decode cL_law 2335 = .ok (.dload 6, 2) := by decide +kernel
theorem dL_law_2337 : decode cL_law 2337 = .ok (.dload 8, 2) := by decide +kernel
theorem dL_law_2339 : decode cL_law 2339 = .ok (.dcmp .l, 1) := by decide +kernel
theorem dL_law_2340 : decode cL_law 2340 = .ok (.ifCond .eq 21, 3) := by decide +kernel
theorem dL_law_2361 : decode cL_law 2361 = .ok (.goto 429, 3) := by decide +kernel
theorem dL_law_2364 : decode cL_law 2364 = .ok (.aload_n 1, 1) := by decide +kernel
theorem dL_law_2365 : decode cL_law 2365 = .ok (.aload_n 0, 1) := by decide +kernel
theorem dL_law_2366 : decode cL_law 2366 = .ok (.iload 5, 2) := by decide +kernel
theorem dL_law_2368 : decode cL_law 2368 = .ok (.iconst 1, 1) := by decide +kernel
theorem dL_law_2369 : decode cL_law 2369 = .ok (.iadd, 1) := by decide +kernel
theorem dL_law_2370 : decode cL_law 2370 = .ok (.iaload, 1) := by decide +kernel
theorem dL_law_2371 : decode cL_law 2371 = .ok (.aload_n 0, 1) := by decide +kernel
theorem dL_law_2372 : decode cL_law 2372 = .ok (.iload 5, 2) := by decide +kernel
theorem dL_law_2374 : decode cL_law 2374 = .ok (.iconst 2, 1) := by decide +kernel
theorem dL_law_2375 : decode cL_law 2375 = .ok (.iadd, 1) := by decide +kernel
theorem dL_law_2376 : decode cL_law 2376 = .ok (.iaload, 1) := by decide +kernel
theorem dL_law_2377 : decode cL_law 2377 = .ok (.aload_n 0, 1) := by decide +kernel
theorem dL_law_2378 : decode cL_law 2378 = .ok (.iload 5, 2) := by decide +kernel
theorem dL_law_2380 : decode cL_law 2380 = .ok (.iconst 3, 1) := by decide +kernel
theorem dL_law_2381 : decode cL_law 2381 = .ok (.iadd, 1) := by decide +kernel
theorem dL_law_2382 : decode cL_law 2382 = .ok (.iaload, 1) := by decide +kernel
theorem dL_law_2383 : decode cL_law 2383 = .ok (.aload_n 3, 1) := by decide +kernel
theorem dL_law_2384 : decode cL_law 2384 = .ok (.invokestatic 287, 3) := by decide +kernel
theorem dL_law_2387 : decode cL_law 2387 = .ok (.istore 6, 2) := by decide +kernel
theorem dL_law_2389 : decode cL_law 2389 = .ok (.aload_n 2, 1) := by decide +kernel
theorem dL_law_2390 : decode cL_law 2390 = .ok (.aload_n 0, 1) := by decide +kernel
theorem dL_law_2391 : decode cL_law 2391 = .ok (.iload 5, 2) := by decide +kernel
theorem dL_law_2393 : decode cL_law 2393 = .ok (.iconst 1, 1) := by decide +kernel
theorem dL_law_2394 : decode cL_law 2394 = .ok (.iadd, 1) := by decide +kernel
theorem dL_law_2395 : decode cL_law 2395 = .ok (.iaload, 1) := by decide +kernel
theorem dL_law_2396 : decode cL_law 2396 = .ok (.aload_n 0, 1) := by decide +kernel
theorem dL_law_2397 : decode cL_law 2397 = .ok (.iload 5, 2) := by decide +kernel
theorem dL_law_2399 : decode cL_law 2399 = .ok (.iconst 2, 1) := by decide +kernel
theorem dL_law_2400 : decode cL_law 2400 = .ok (.iadd, 1) := by decide +kernel
theorem dL_law_2401 : decode cL_law 2401 = .ok (.iaload, 1) := by decide +kernel
theorem dL_law_2402 : decode cL_law 2402 = .ok (.aload_n 0, 1) := by decide +kernel
theorem dL_law_2403 : decode cL_law 2403 = .ok (.iload 5, 2) := by decide +kernel
theorem dL_law_2405 : decode cL_law 2405 = .ok (.iconst 3, 1) := by decide +kernel
theorem dL_law_2406 : decode cL_law 2406 = .ok (.iadd, 1) := by decide +kernel
theorem dL_law_2407 : decode cL_law 2407 = .ok (.iaload, 1) := by decide +kernel
theorem dL_law_2408 : decode cL_law 2408 = .ok (.invokevirtual 290, 3) := by decide +kernel
theorem dL_law_2411 : decode cL_law 2411 = .ok (.istore 7, 2) := by decide +kernel
theorem dL_law_2413 : decode cL_law 2413 = .ok (.aload_n 2, 1) := by decide +kernel
theorem dL_law_2414 : decode cL_law 2414 = .ok (.invokevirtual 145, 3) := by decide +kernel
theorem dL_law_2417 : decode cL_law 2417 = .ok (.iload 6, 2) := by decide +kernel
theorem dL_law_2419 : decode cL_law 2419 = .ok (.if_icmp .eq 5, 3) := by decide +kernel
theorem dL_law_2424 : decode cL_law 2424 = .ok (.iload 6, 2) := by decide +kernel
theorem dL_law_2426 : decode cL_law 2426 = .ok (.ifCond .ne 15, 3) := by decide +kernel
theorem dL_law_2429 : decode cL_law 2429 = .ok (.aload_n 3, 1) := by decide +kernel
theorem dL_law_2430 : decode cL_law 2430 = .ok (.iconst 0, 1) := by decide +kernel
theorem dL_law_2431 : decode cL_law 2431 = .ok (.laload, 1) := by decide +kernel
theorem dL_law_2432 : decode cL_law 2432 = .ok (.iload 7, 2) := by decide +kernel
theorem dL_law_2434 : decode cL_law 2434 = .ok (.i2l, 1) := by decide +kernel
theorem dL_law_2435 : decode cL_law 2435 = .ok (.lcmp, 1) := by decide +kernel
theorem dL_law_2436 : decode cL_law 2436 = .ok (.ifCond .eq 5, 3) := by decide +kernel
theorem dL_law_2441 : decode cL_law 2441 = .ok (.goto 349, 3) := by decide +kernel
theorem dL_law_2444 : decode cL_law 2444 = .ok (.aload_n 1, 1) := by decide +kernel
theorem dL_law_2445 : decode cL_law 2445 = .ok (.aload_n 0, 1) := by decide +kernel
theorem dL_law_2446 : decode cL_law 2446 = .ok (.iload 5, 2) := by decide +kernel
theorem dL_law_2448 : decode cL_law 2448 = .ok (.iconst 1, 1) := by decide +kernel
theorem dL_law_2449 : decode cL_law 2449 = .ok (.iadd, 1) := by decide +kernel
theorem dL_law_2450 : decode cL_law 2450 = .ok (.iaload, 1) := by decide +kernel
theorem dL_law_2451 : decode cL_law 2451 = .ok (.aload_n 3, 1) := by decide +kernel
theorem dL_law_2452 : decode cL_law 2452 = .ok (.invokestatic 291, 3) := by decide +kernel
theorem dL_law_2455 : decode cL_law 2455 = .ok (.istore 6, 2) := by decide +kernel
theorem dL_law_2457 : decode cL_law 2457 = .ok (.aload_n 2, 1) := by decide +kernel
theorem dL_law_2458 : decode cL_law 2458 = .ok (.aload_n 0, 1) := by decide +kernel
theorem dL_law_2459 : decode cL_law 2459 = .ok (.iload 5, 2) := by decide +kernel
theorem dL_law_2461 : decode cL_law 2461 = .ok (.iconst 1, 1) := by decide +kernel
theorem dL_law_2462 : decode cL_law 2462 = .ok (.iadd, 1) := by decide +kernel
theorem dL_law_2463 : decode cL_law 2463 = .ok (.iaload, 1) := by decide +kernel
theorem dL_law_2464 : decode cL_law 2464 = .ok (.invokevirtual 293, 3) := by decide +kernel
theorem dL_law_2467 : decode cL_law 2467 = .ok (.istore 7, 2) := by decide +kernel
theorem dL_law_2469 : decode cL_law 2469 = .ok (.aload_n 2, 1) := by decide +kernel
theorem dL_law_2470 : decode cL_law 2470 = .ok (.invokevirtual 145, 3) := by decide +kernel
theorem dL_law_2473 : decode cL_law 2473 = .ok (.iload 6, 2) := by decide +kernel
theorem dL_law_2475 : decode cL_law 2475 = .ok (.if_icmp .eq 5, 3) := by decide +kernel
theorem dL_law_2480 : decode cL_law 2480 = .ok (.iload 6, 2) := by decide +kernel
theorem dL_law_2482 : decode cL_law 2482 = .ok (.ifCond .ne 15, 3) := by decide +kernel
theorem dL_law_2485 : decode cL_law 2485 = .ok (.aload_n 3, 1) := by decide +kernel
theorem dL_law_2486 : decode cL_law 2486 = .ok (.iconst 0, 1) := by decide +kernel
theorem dL_law_2487 : decode cL_law 2487 = .ok (.laload, 1) := by decide +kernel
theorem dL_law_2488 : decode cL_law 2488 = .ok (.iload 7, 2) := by decide +kernel
theorem dL_law_2490 : decode cL_law 2490 = .ok (.i2l, 1) := by decide +kernel
theorem dL_law_2491 : decode cL_law 2491 = .ok (.lcmp, 1) := by decide +kernel
theorem dL_law_2492 : decode cL_law 2492 = .ok (.ifCond .eq 5, 3) := by decide +kernel
theorem dL_law_2497 : decode cL_law 2497 = .ok (.goto 293, 3) := by decide +kernel
theorem dL_law_2500 : decode cL_law 2500 = .ok (.aload_n 1, 1) := by decide +kernel
theorem dL_law_2501 : decode cL_law 2501 = .ok (.aload_n 0, 1) := by decide +kernel
theorem dL_law_2502 : decode cL_law 2502 = .ok (.iload 5, 2) := by decide +kernel
theorem dL_law_2504 : decode cL_law 2504 = .ok (.iconst 1, 1) := by decide +kernel
theorem dL_law_2505 : decode cL_law 2505 = .ok (.iadd, 1) := by decide +kernel
theorem dL_law_2506 : decode cL_law 2506 = .ok (.iaload, 1) := by decide +kernel
theorem dL_law_2507 : decode cL_law 2507 = .ok (.aload_n 3, 1) := by decide +kernel
theorem dL_law_2508 : decode cL_law 2508 = .ok (.invokestatic 294, 3) := by decide +kernel
theorem dL_law_2511 : decode cL_law 2511 = .ok (.istore 6, 2) := by decide +kernel
theorem dL_law_2513 : decode cL_law 2513 = .ok (.aload_n 2, 1) := by decide +kernel
theorem dL_law_2514 : decode cL_law 2514 = .ok (.aload_n 0, 1) := by decide +kernel
theorem dL_law_2515 : decode cL_law 2515 = .ok (.iload 5, 2) := by decide +kernel
theorem dL_law_2517 : decode cL_law 2517 = .ok (.iconst 1, 1) := by decide +kernel
theorem dL_law_2518 : decode cL_law 2518 = .ok (.iadd, 1) := by decide +kernel
theorem dL_law_2519 : decode cL_law 2519 = .ok (.iaload, 1) := by decide +kernel
theorem dL_law_2520 : decode cL_law 2520 = .ok (.invokevirtual 296, 3) := by decide +kernel
theorem dL_law_2523 : decode cL_law 2523 = .ok (.istore 7, 2) := by decide +kernel
theorem dL_law_2525 : decode cL_law 2525 = .ok (.aload_n 2, 1) := by decide +kernel
theorem dL_law_2526 : decode cL_law 2526 = .ok (.invokevirtual 145, 3) := by decide +kernel
theorem dL_law_2529 : decode cL_law 2529 = .ok (.iload 6, 2) := by decide +kernel
theorem dL_law_2531 : decode cL_law 2531 = .ok (.if_icmp .eq 5, 3) := by decide +kernel
theorem dL_law_2536 : decode cL_law 2536 = .ok (.iload 6, 2) := by decide +kernel
theorem dL_law_2538 : decode cL_law 2538 = .ok (.ifCond .ne 15, 3) := by decide +kernel
theorem dL_law_2541 : decode cL_law 2541 = .ok (.aload_n 3, 1) := by decide +kernel
theorem dL_law_2542 : decode cL_law 2542 = .ok (.iconst 0, 1) := by decide +kernel
theorem dL_law_2543 : decode cL_law 2543 = .ok (.laload, 1) := by decide +kernel
theorem dL_law_2544 : decode cL_law 2544 = .ok (.iload 7, 2) := by decide +kernel
theorem dL_law_2546 : decode cL_law 2546 = .ok (.i2l, 1) := by decide +kernel
theorem dL_law_2547 : decode cL_law 2547 = .ok (.lcmp, 1) := by decide +kernel
theorem dL_law_2548 : decode cL_law 2548 = .ok (.ifCond .eq 5, 3) := by decide +kernel
theorem dL_law_2553 : decode cL_law 2553 = .ok (.goto 237, 3) := by decide +kernel
theorem dL_law_2556 : decode cL_law 2556 = .ok (.aload_n 1, 1) := by decide +kernel
theorem dL_law_2557 : decode cL_law 2557 = .ok (.aload_n 0, 1) := by decide +kernel
theorem dL_law_2558 : decode cL_law 2558 = .ok (.iload 5, 2) := by decide +kernel
theorem dL_law_2560 : decode cL_law 2560 = .ok (.iconst 1, 1) := by decide +kernel
theorem dL_law_2561 : decode cL_law 2561 = .ok (.iadd, 1) := by decide +kernel
theorem dL_law_2562 : decode cL_law 2562 = .ok (.iaload, 1) := by decide +kernel
theorem dL_law_2563 : decode cL_law 2563 = .ok (.aload_n 0, 1) := by decide +kernel
theorem dL_law_2564 : decode cL_law 2564 = .ok (.iload 5, 2) := by decide +kernel
theorem dL_law_2566 : decode cL_law 2566 = .ok (.iconst 2, 1) := by decide +kernel
theorem dL_law_2567 : decode cL_law 2567 = .ok (.iadd, 1) := by decide +kernel
theorem dL_law_2568 : decode cL_law 2568 = .ok (.iaload, 1) := by decide +kernel
theorem dL_law_2569 : decode cL_law 2569 = .ok (.aload_n 3, 1) := by decide +kernel
theorem dL_law_2570 : decode cL_law 2570 = .ok (.invokestatic 297, 3) := by decide +kernel
theorem dL_law_2573 : decode cL_law 2573 = .ok (.istore 6, 2) := by decide +kernel
theorem dL_law_2575 : decode cL_law 2575 = .ok (.aload_n 2, 1) := by decide +kernel
theorem dL_law_2576 : decode cL_law 2576 = .ok (.aload_n 0, 1) := by decide +kernel
theorem dL_law_2577 : decode cL_law 2577 = .ok (.iload 5, 2) := by decide +kernel
theorem dL_law_2579 : decode cL_law 2579 = .ok (.iconst 1, 1) := by decide +kernel
theorem dL_law_2580 : decode cL_law 2580 = .ok (.iadd, 1) := by decide +kernel
theorem dL_law_2581 : decode cL_law 2581 = .ok (.iaload, 1) := by decide +kernel
theorem dL_law_2582 : decode cL_law 2582 = .ok (.aload_n 0, 1) := by decide +kernel
theorem dL_law_2583 : decode cL_law 2583 = .ok (.iload 5, 2) := by decide +kernel
theorem dL_law_2585 : decode cL_law 2585 = .ok (.iconst 2, 1) := by decide +kernel
theorem dL_law_2586 : decode cL_law 2586 = .ok (.iadd, 1) := by decide +kernel
theorem dL_law_2587 : decode cL_law 2587 = .ok (.iaload, 1) := by decide +kernel
theorem dL_law_2588 : decode cL_law 2588 = .ok (.invokevirtual 299, 3) := by decide +kernel
theorem dL_law_2591 : decode cL_law 2591 = .ok (.istore 7, 2) := by decide +kernel
theorem dL_law_2593 : decode cL_law 2593 = .ok (.aload_n 2, 1) := by decide +kernel
theorem dL_law_2594 : decode cL_law 2594 = .ok (.invokevirtual 145, 3) := by decide +kernel
theorem dL_law_2597 : decode cL_law 2597 = .ok (.iload 6, 2) := by decide +kernel
theorem dL_law_2599 : decode cL_law 2599 = .ok (.if_icmp .eq 5, 3) := by decide +kernel
theorem dL_law_2604 : decode cL_law 2604 = .ok (.iload 6, 2) := by decide +kernel
theorem dL_law_2606 : decode cL_law 2606 = .ok (.ifCond .ne 15, 3) := by decide +kernel
theorem dL_law_2609 : decode cL_law 2609 = .ok (.aload_n 3, 1) := by decide +kernel
theorem dL_law_2610 : decode cL_law 2610 = .ok (.iconst 0, 1) := by decide +kernel
theorem dL_law_2611 : decode cL_law 2611 = .ok (.laload, 1) := by decide +kernel
theorem dL_law_2612 : decode cL_law 2612 = .ok (.iload 7, 2) := by decide +kernel
theorem dL_law_2614 : decode cL_law 2614 = .ok (.i2l, 1) := by decide +kernel
theorem dL_law_2615 : decode cL_law 2615 = .ok (.lcmp, 1) := by decide +kernel
theorem dL_law_2616 : decode cL_law 2616 = .ok (.ifCond .eq 5, 3) := by decide +kernel
theorem dL_law_2621 : decode cL_law 2621 = .ok (.goto 169, 3) := by decide +kernel
theorem dL_law_2624 : decode cL_law 2624 = .ok (.aload_n 1, 1) := by decide +kernel
theorem dL_law_2625 : decode cL_law 2625 = .ok (.aload_n 0, 1) := by decide +kernel
theorem dL_law_2626 : decode cL_law 2626 = .ok (.iload 5, 2) := by decide +kernel
theorem dL_law_2628 : decode cL_law 2628 = .ok (.iconst 1, 1) := by decide +kernel
theorem dL_law_2629 : decode cL_law 2629 = .ok (.iadd, 1) := by decide +kernel
theorem dL_law_2630 : decode cL_law 2630 = .ok (.iaload, 1) := by decide +kernel
theorem dL_law_2631 : decode cL_law 2631 = .ok (.aload_n 3, 1) := by decide +kernel
theorem dL_law_2632 : decode cL_law 2632 = .ok (.invokestatic 300, 3) := by decide +kernel
theorem dL_law_2635 : decode cL_law 2635 = .ok (.istore 6, 2) := by decide +kernel
theorem dL_law_2637 : decode cL_law 2637 = .ok (.aload_n 2, 1) := by decide +kernel
theorem dL_law_2638 : decode cL_law 2638 = .ok (.aload_n 0, 1) := by decide +kernel
theorem dL_law_2639 : decode cL_law 2639 = .ok (.iload 5, 2) := by decide +kernel
theorem dL_law_2641 : decode cL_law 2641 = .ok (.iconst 1, 1) := by decide +kernel
theorem dL_law_2642 : decode cL_law 2642 = .ok (.iadd, 1) := by decide +kernel
theorem dL_law_2643 : decode cL_law 2643 = .ok (.iaload, 1) := by decide +kernel
theorem dL_law_2644 : decode cL_law 2644 = .ok (.invokevirtual 302, 3) := by decide +kernel
theorem dL_law_2647 : decode cL_law 2647 = .ok (.istore 7, 2) := by decide +kernel
theorem dL_law_2649 : decode cL_law 2649 = .ok (.aload_n 2, 1) := by decide +kernel
theorem dL_law_2650 : decode cL_law 2650 = .ok (.invokevirtual 145, 3) := by decide +kernel
theorem dL_law_2653 : decode cL_law 2653 = .ok (.iload 6, 2) := by decide +kernel
theorem dL_law_2655 : decode cL_law 2655 = .ok (.if_icmp .eq 5, 3) := by decide +kernel
theorem dL_law_2660 : decode cL_law 2660 = .ok (.iload 6, 2) := by decide +kernel
theorem dL_law_2662 : decode cL_law 2662 = .ok (.ifCond .ne 15, 3) := by decide +kernel
theorem dL_law_2665 : decode cL_law 2665 = .ok (.aload_n 3, 1) := by decide +kernel
theorem dL_law_2666 : decode cL_law 2666 = .ok (.iconst 0, 1) := by decide +kernel
theorem dL_law_2667 : decode cL_law 2667 = .ok (.laload, 1) := by decide +kernel
theorem dL_law_2668 : decode cL_law 2668 = .ok (.iload 7, 2) := by decide +kernel
theorem dL_law_2670 : decode cL_law 2670 = .ok (.i2l, 1) := by decide +kernel
theorem dL_law_2671 : decode cL_law 2671 = .ok (.lcmp, 1) := by decide +kernel
theorem dL_law_2672 : decode cL_law 2672 = .ok (.ifCond .eq 5, 3) := by decide +kernel
theorem dL_law_2677 : decode cL_law 2677 = .ok (.goto 113, 3) := by decide +kernel
theorem dL_law_2680 : decode cL_law 2680 = .ok (.aload_n 1, 1) := by decide +kernel
theorem dL_law_2681 : decode cL_law 2681 = .ok (.aload_n 0, 1) := by decide +kernel
theorem dL_law_2682 : decode cL_law 2682 = .ok (.iload 5, 2) := by decide +kernel
theorem dL_law_2684 : decode cL_law 2684 = .ok (.iconst 1, 1) := by decide +kernel
theorem dL_law_2685 : decode cL_law 2685 = .ok (.iadd, 1) := by decide +kernel
theorem dL_law_2686 : decode cL_law 2686 = .ok (.iaload, 1) := by decide +kernel
theorem dL_law_2687 : decode cL_law 2687 = .ok (.invokevirtual 303, 3) := by decide +kernel
theorem dL_law_2690 : decode cL_law 2690 = .ok (.aload_n 2, 1) := by decide +kernel
theorem dL_law_2691 : decode cL_law 2691 = .ok (.aload_n 0, 1) := by decide +kernel
theorem dL_law_2692 : decode cL_law 2692 = .ok (.iload 5, 2) := by decide +kernel
theorem dL_law_2694 : decode cL_law 2694 = .ok (.iconst 1, 1) := by decide +kernel
theorem dL_law_2695 : decode cL_law 2695 = .ok (.iadd, 1) := by decide +kernel
theorem dL_law_2696 : decode cL_law 2696 = .ok (.iaload, 1) := by decide +kernel
theorem dL_law_2697 : decode cL_law 2697 = .ok (.invokevirtual 306, 3) := by decide +kernel
theorem dL_law_2700 : decode cL_law 2700 = .ok (.if_icmp .eq 90, 3) := by decide +kernel
theorem dL_law_2705 : decode cL_law 2705 = .ok (.aload_n 1, 1) := by decide +kernel
theorem dL_law_2706 : decode cL_law 2706 = .ok (.invokevirtual 307, 3) := by decide +kernel
theorem dL_law_2709 : decode cL_law 2709 = .ok (.aload_n 2, 1) := by decide +kernel
theorem dL_law_2710 : decode cL_law 2710 = .ok (.invokevirtual 310, 3) := by decide +kernel
theorem dL_law_2713 : decode cL_law 2713 = .ok (.if_icmp .eq 77, 3) := by decide +kernel
theorem dL_law_2718 : decode cL_law 2718 = .ok (.aload_n 1, 1) := by decide +kernel
theorem dL_law_2719 : decode cL_law 2719 = .ok (.aload_n 0, 1) := by decide +kernel
theorem dL_law_2720 : decode cL_law 2720 = .ok (.iload 5, 2) := by decide +kernel
theorem dL_law_2722 : decode cL_law 2722 = .ok (.iconst 1, 1) := by decide +kernel
theorem dL_law_2723 : decode cL_law 2723 = .ok (.iadd, 1) := by decide +kernel
theorem dL_law_2724 : decode cL_law 2724 = .ok (.iaload, 1) := by decide +kernel
theorem dL_law_2725 : decode cL_law 2725 = .ok (.invokestatic 311, 3) := by decide +kernel
theorem dL_law_2728 : decode cL_law 2728 = .ok (.istore 6, 2) := by decide +kernel
theorem dL_law_2730 : decode cL_law 2730 = .ok (.aload_n 2, 1) := by decide +kernel
theorem dL_law_2731 : decode cL_law 2731 = .ok (.aload_n 0, 1) := by decide +kernel
theorem dL_law_2732 : decode cL_law 2732 = .ok (.iload 5, 2) := by decide +kernel
theorem dL_law_2734 : decode cL_law 2734 = .ok (.iconst 1, 1) := by decide +kernel
theorem dL_law_2735 : decode cL_law 2735 = .ok (.iadd, 1) := by decide +kernel
theorem dL_law_2736 : decode cL_law 2736 = .ok (.iaload, 1) := by decide +kernel
theorem dL_law_2737 : decode cL_law 2737 = .ok (.invokevirtual 314, 3) := by decide +kernel
theorem dL_law_2740 : decode cL_law 2740 = .ok (.aload_n 2, 1) := by decide +kernel
theorem dL_law_2741 : decode cL_law 2741 = .ok (.invokevirtual 145, 3) := by decide +kernel
theorem dL_law_2744 : decode cL_law 2744 = .ok (.iload 6, 2) := by decide +kernel
theorem dL_law_2746 : decode cL_law 2746 = .ok (.if_icmp .eq 5, 3) := by decide +kernel
theorem dL_law_2751 : decode cL_law 2751 = .ok (.goto 39, 3) := by decide +kernel
theorem dL_law_2754 : decode cL_law 2754 = .ok (.aload_n 1, 1) := by decide +kernel
theorem dL_law_2755 : decode cL_law 2755 = .ok (.aload_n 0, 1) := by decide +kernel
theorem dL_law_2756 : decode cL_law 2756 = .ok (.iload 5, 2) := by decide +kernel
theorem dL_law_2758 : decode cL_law 2758 = .ok (.iconst 1, 1) := by decide +kernel
theorem dL_law_2759 : decode cL_law 2759 = .ok (.iadd, 1) := by decide +kernel
theorem dL_law_2760 : decode cL_law 2760 = .ok (.iaload, 1) := by decide +kernel
theorem dL_law_2761 : decode cL_law 2761 = .ok (.invokestatic 315, 3) := by decide +kernel
theorem dL_law_2764 : decode cL_law 2764 = .ok (.istore 6, 2) := by decide +kernel
theorem dL_law_2766 : decode cL_law 2766 = .ok (.aload_n 2, 1) := by decide +kernel
theorem dL_law_2767 : decode cL_law 2767 = .ok (.aload_n 0, 1) := by decide +kernel
theorem dL_law_2768 : decode cL_law 2768 = .ok (.iload 5, 2) := by decide +kernel
theorem dL_law_2770 : decode cL_law 2770 = .ok (.iconst 1, 1) := by decide +kernel
theorem dL_law_2771 : decode cL_law 2771 = .ok (.iadd, 1) := by decide +kernel
theorem dL_law_2772 : decode cL_law 2772 = .ok (.iaload, 1) := by decide +kernel
theorem dL_law_2773 : decode cL_law 2773 = .ok (.invokevirtual 317, 3) := by decide +kernel
theorem dL_law_2776 : decode cL_law 2776 = .ok (.aload_n 2, 1) := by decide +kernel
theorem dL_law_2777 : decode cL_law 2777 = .ok (.invokevirtual 145, 3) := by decide +kernel
theorem dL_law_2780 : decode cL_law 2780 = .ok (.iload 6, 2) := by decide +kernel
theorem dL_law_2782 : decode cL_law 2782 = .ok (.if_icmp .eq 5, 3) := by decide +kernel
theorem dL_law_2787 : decode cL_law 2787 = .ok (.goto 3, 3) := by decide +kernel
theorem tl_L_282 : Cond.methodLink RL 282 yX7_agreement ∈ TMW := tm_in 782 (by decide +kernel) (by decide +kernel)
theorem ti_X7_agreement : Cond.instanceMethod yX7_agreement ∈ TMW := tm_in 783 (by decide +kernel) (by decide +kernel)
theorem ts_X7_agreement : Cond.selects RX7 yX7_agreement yX7_agreement ∈ TMW := tm_in 784 (by decide +kernel) (by decide +kernel)
theorem tc_X7_agreement : Cond.code yX7_agreement cX7_agreement 4 (some .float) ∈ TMW := tm_in 785 (by decide +kernel) (by decide +kernel)
theorem tl_L_286 : Cond.methodLink RL 286 yX8_agreement ∈ TMW := tm_in 2029 (by decide +kernel) (by decide +kernel)
theorem ti_X8_agreement : Cond.instanceMethod yX8_agreement ∈ TMW := tm_in 2030 (by decide +kernel) (by decide +kernel)
theorem ts_X8_agreement : Cond.selects RX8 yX8_agreement yX8_agreement ∈ TMW := tm_in 2031 (by decide +kernel) (by decide +kernel)
theorem tc_X8_agreement : Cond.code yX8_agreement cX8_agreement 4 (some .float) ∈ TMW := tm_in 2032 (by decide +kernel) (by decide +kernel)
theorem tl_L_287 : Cond.methodLink RL 287 yL_readSum ∈ TMW := tm_in 1210 (by decide +kernel) (by decide +kernel)
theorem tst_L_readSum : Cond.static yL_readSum ∈ TMW := tm_in 1211 (by decide +kernel) (by decide +kernel)
theorem tc_L_readSum : Cond.codeWith yL_readSum cL_readSum 6 (some .int) [(0, 12, 15, 28)] ∈ TMW := tm_in 1212 (by decide +kernel) (by decide +kernel)
theorem tl_L_290 : Cond.methodLink RL 290 yX8_readSum ∈ TMW := tm_in 2037 (by decide +kernel) (by decide +kernel)
theorem ti_X8_readSum : Cond.instanceMethod yX8_readSum ∈ TMW := tm_in 2038 (by decide +kernel) (by decide +kernel)
theorem ts_X8_readSum : Cond.selects RX8 yX8_readSum yX8_readSum ∈ TMW := tm_in 2039 (by decide +kernel) (by decide +kernel)
theorem tc_X8_readSum : Cond.code yX8_readSum cX8_readSum 9 (some .int) ∈ TMW := tm_in 2040 (by decide +kernel) (by decide +kernel)
theorem tl_L_291 : Cond.methodLink RL 291 yL_written ∈ TMW := tm_in 1217 (by decide +kernel) (by decide +kernel)
theorem tst_L_written : Cond.static yL_written ∈ TMW := tm_in 1218 (by decide +kernel) (by decide +kernel)
theorem tc_L_written : Cond.codeWith yL_written cL_written 4 (some .int) [(0, 9, 12, 28)] ∈ TMW := tm_in 1219 (by decide +kernel) (by decide +kernel)
theorem tl_L_293 : Cond.methodLink RL 293 yX8_written ∈ TMW := tm_in 2041 (by decide +kernel) (by decide +kernel)
theorem ti_X8_written : Cond.instanceMethod yX8_written ∈ TMW := tm_in 2042 (by decide +kernel) (by decide +kernel)
theorem ts_X8_written : Cond.selects RX8 yX8_written yX8_written ∈ TMW := tm_in 2043 (by decide +kernel) (by decide +kernel)
theorem tc_X8_written : Cond.code yX8_written cX8_written 2 (some .int) ∈ TMW := tm_in 2044 (by decide +kernel) (by decide +kernel)
theorem tl_L_294 : Cond.methodLink RL 294 yL_changed ∈ TMW := tm_in 1224 (by decide +kernel) (by decide +kernel)
theorem tst_L_changed : Cond.static yL_changed ∈ TMW := tm_in 1225 (by decide +kernel) (by decide +kernel)
theorem tc_L_changed : Cond.codeWith yL_changed cL_changed 4 (some .int) [(0, 9, 12, 28)] ∈ TMW := tm_in 1226 (by decide +kernel) (by decide +kernel)
theorem tl_L_296 : Cond.methodLink RL 296 yX8_changed ∈ TMW := tm_in 2045 (by decide +kernel) (by decide +kernel)
theorem ti_X8_changed : Cond.instanceMethod yX8_changed ∈ TMW := tm_in 2046 (by decide +kernel) (by decide +kernel)
theorem ts_X8_changed : Cond.selects RX8 yX8_changed yX8_changed ∈ TMW := tm_in 2047 (by decide +kernel) (by decide +kernel)
theorem tc_X8_changed : Cond.code yX8_changed cX8_changed 6 (some .int) ∈ TMW := tm_in 2048 (by decide +kernel) (by decide +kernel)
theorem tl_L_297 : Cond.methodLink RL 297 yL_eventsOf ∈ TMW := tm_in 1238 (by decide +kernel) (by decide +kernel)
theorem tst_L_eventsOf : Cond.static yL_eventsOf ∈ TMW := tm_in 1239 (by decide +kernel) (by decide +kernel)
theorem tc_L_eventsOf : Cond.codeWith yL_eventsOf cL_eventsOf 5 (some .int) [(0, 10, 13, 18)] ∈ TMW := tm_in 1240 (by decide +kernel) (by decide +kernel)
theorem tl_L_299 : Cond.methodLink RL 299 yX8_eventsOf ∈ TMW := tm_in 2049 (by decide +kernel) (by decide +kernel)
theorem ti_X8_eventsOf : Cond.instanceMethod yX8_eventsOf ∈ TMW := tm_in 2050 (by decide +kernel) (by decide +kernel)
theorem ts_X8_eventsOf : Cond.selects RX8 yX8_eventsOf yX8_eventsOf ∈ TMW := tm_in 2051 (by decide +kernel) (by decide +kernel)
theorem tc_X8_eventsOf : Cond.code yX8_eventsOf cX8_eventsOf 7 (some .int) ∈ TMW := tm_in 2052 (by decide +kernel) (by decide +kernel)
theorem tl_L_300 : Cond.methodLink RL 300 yL_write ∈ TMW := tm_in 1253 (by decide +kernel) (by decide +kernel)
theorem tst_L_write : Cond.static yL_write ∈ TMW := tm_in 1254 (by decide +kernel) (by decide +kernel)
theorem tc_L_write : Cond.codeWith yL_write cL_write 4 (some .int) [(0, 9, 12, 28)] ∈ TMW := tm_in 1255 (by decide +kernel) (by decide +kernel)
theorem tl_L_302 : Cond.methodLink RL 302 yX8_write ∈ TMW := tm_in 2053 (by decide +kernel) (by decide +kernel)
theorem ti_X8_write : Cond.instanceMethod yX8_write ∈ TMW := tm_in 2054 (by decide +kernel) (by decide +kernel)
theorem ts_X8_write : Cond.selects RX8 yX8_write yX8_write ∈ TMW := tm_in 2055 (by decide +kernel) (by decide +kernel)
theorem tc_X8_write : Cond.code yX8_write cX8_write 3 (some .int) ∈ TMW := tm_in 2056 (by decide +kernel) (by decide +kernel)
theorem tl_L_303 : Cond.methodLink RL 303 yX7_output ∈ TMW := tm_in 790 (by decide +kernel) (by decide +kernel)
theorem ti_X7_output : Cond.instanceMethod yX7_output ∈ TMW := tm_in 791 (by decide +kernel) (by decide +kernel)
theorem ts_X7_output : Cond.selects RX7 yX7_output yX7_output ∈ TMW := tm_in 792 (by decide +kernel) (by decide +kernel)
theorem tc_X7_output : Cond.code yX7_output cX7_output 2 (some .int) ∈ TMW := tm_in 793 (by decide +kernel) (by decide +kernel)
theorem tl_L_306 : Cond.methodLink RL 306 yX8_output ∈ TMW := tm_in 2073 (by decide +kernel) (by decide +kernel)
theorem ti_X8_output : Cond.instanceMethod yX8_output ∈ TMW := tm_in 2074 (by decide +kernel) (by decide +kernel)
theorem ts_X8_output : Cond.selects RX8 yX8_output yX8_output ∈ TMW := tm_in 2075 (by decide +kernel) (by decide +kernel)
theorem tc_X8_output : Cond.code yX8_output cX8_output 2 (some .int) ∈ TMW := tm_in 2076 (by decide +kernel) (by decide +kernel)
theorem tl_L_307 : Cond.methodLink RL 307 yX7_undo ∈ TMW := tm_in 811 (by decide +kernel) (by decide +kernel)
theorem ti_X7_undo : Cond.instanceMethod yX7_undo ∈ TMW := tm_in 812 (by decide +kernel) (by decide +kernel)
theorem ts_X7_undo : Cond.selects RX7 yX7_undo yX7_undo ∈ TMW := tm_in 813 (by decide +kernel) (by decide +kernel)
theorem tc_X7_undo : Cond.code yX7_undo cX7_undo 1 (some .int) ∈ TMW := tm_in 814 (by decide +kernel) (by decide +kernel)
theorem tl_L_310 : Cond.methodLink RL 310 yX8_undo ∈ TMW := tm_in 2142 (by decide +kernel) (by decide +kernel)
theorem ti_X8_undo : Cond.instanceMethod yX8_undo ∈ TMW := tm_in 2143 (by decide +kernel) (by decide +kernel)
theorem ts_X8_undo : Cond.selects RX8 yX8_undo yX8_undo ∈ TMW := tm_in 2144 (by decide +kernel) (by decide +kernel)
theorem tc_X8_undo : Cond.code yX8_undo cX8_undo 1 (some .int) ∈ TMW := tm_in 2145 (by decide +kernel) (by decide +kernel)
theorem tl_L_311 : Cond.methodLink RL 311 yL_save ∈ TMW := tm_in 1527 (by decide +kernel) (by decide +kernel)
theorem tst_L_save : Cond.static yL_save ∈ TMW := tm_in 1528 (by decide +kernel) (by decide +kernel)
theorem tc_L_save : Cond.codeWith yL_save cL_save 3 (some .int) [(0, 5, 8, 18)] ∈ TMW := tm_in 1529 (by decide +kernel) (by decide +kernel)
theorem tl_L_314 : Cond.methodLink RL 314 yX8_save ∈ TMW := tm_in 2146 (by decide +kernel) (by decide +kernel)
theorem ti_X8_save : Cond.instanceMethod yX8_save ∈ TMW := tm_in 2147 (by decide +kernel) (by decide +kernel)
theorem ts_X8_save : Cond.selects RX8 yX8_save yX8_save ∈ TMW := tm_in 2148 (by decide +kernel) (by decide +kernel)
theorem tc_X8_save : Cond.code yX8_save cX8_save 2 none ∈ TMW := tm_in 2149 (by decide +kernel) (by decide +kernel)
theorem tl_L_315 : Cond.methodLink RL 315 yL_restore ∈ TMW := tm_in 1534 (by decide +kernel) (by decide +kernel)
theorem tst_L_restore : Cond.static yL_restore ∈ TMW := tm_in 1535 (by decide +kernel) (by decide +kernel)
theorem tc_L_restore : Cond.codeWith yL_restore cL_restore 3 (some .int) [(0, 5, 8, 18), (0, 5, 11, 13)] ∈ TMW := tm_in 1536 (by decide +kernel) (by decide +kernel)
theorem tl_L_317 : Cond.methodLink RL 317 yX8_restore ∈ TMW := tm_in 2150 (by decide +kernel) (by decide +kernel)
theorem ti_X8_restore : Cond.instanceMethod yX8_restore ∈ TMW := tm_in 2151 (by decide +kernel) (by decide +kernel)
theorem ts_X8_restore : Cond.selects RX8 yX8_restore yX8_restore ∈ TMW := tm_in 2152 (by decide +kernel) (by decide +kernel)
theorem tc_X8_restore : Cond.code yX8_restore cX8_restore 2 none ∈ TMW := tm_in 2153 (by decide +kernel) (by decide +kernel)
-- ----- case 40: agreement
set_option maxRecDepth 100000 in
theorem law_case_40 {p : Program} {l : Launch} {e : Env} {s : State} {m : MethodId} {args : Array Value} {below : List Frame} {meth : Method} {c : Code} {A : Nat → Prop} {D : va_G} {cy : Nat → ClassId} {ad ar : Nat → Nat} {o1 o2 : Nat} {cL cD : ClassId} {adK adV adE : Nat → Nat} {tC : Nat} {Q : State → Prop} {rt : Option FieldType} {cells slots b i L : Nat} {xs : Nat → Int32} {Rel Rel2 : tmM → List Int32 → tmM → Prop} (hl : l.stackTraces = false) (hp : tP_agreement Rel Rel2) (hX : va_X b L xs s s.heap) (hbl : b < s.heap.size) (hbA : ¬ A b) (hi : i + 5 ≤ L ∧ L ≤ 2560) (hE : tmSc adK adV adE tC A s s.heap) (hTh : tmTh A s s.heap) (hF : tlF D cy cL cD s) (hcs : cells + 64 ≤ 601024 ∧ slots + 8000 ≤ 7293034) {κ b0 : Nat} {u v w : tmM} {bs : List Int32} {xo : Int64} {xd : UInt64} (C0 : tmC p s m args meth c cL_law 10 rt RL TMW tm_NWC D cy tm_s0 tm_a0 0 (tlW cy ad ar o1 o2 cL cD κ b0 u v w xo xd) A) (hT : tmTx κ u bs) (hR : Rel v bs w) (cont : ∀ (κ b0 : Nat) (u v w : tmM) (bs : List Int32) (xo : Int64) (xd : UInt64), tmC p s m args meth c cL_law 10 rt RL TMW tm_NWC D cy tm_s0 tm_a0 0 (tlW cy ad ar o1 o2 cL cD κ b0 u v w xo xd) A → tmTx κ u bs → Rel2 v bs w → tmG p l e room_1 s m args below meth c (cells + 64) (slots + 8000) Q 10 D cy tm_s0 tm_a0 0 (tlW cy ad ar o1 o2 cL cD κ b0 u v w xo xd) A () 2790 [(0, .ref b), (1, .ref (ad 247)), (2, .ref (ar 0)), (3, .ref o1), (4, .ref o2), (5, .int (nI i))] [] tm_v0 (some ())) : tmG p l e room_1 s m args below meth c (cells) (slots) Q 10 D cy tm_s0 tm_a0 0 (tlW cy ad ar o1 o2 cL cD κ b0 u v w xo xd) A () 2321 [(0, .ref b), (1, .ref (ad 247)), (2, .ref (ar 0)), (3, .ref o1), (4, .ref o2), (5, .int (nI i))] [] tm_v0 (some ()) := by
  obtain ⟨r, r2, v', w', ho, hr, hn1, hn2, hq, hR'⟩ := hp v bs w hR
  refine tg_aload_n 1 C0 dL_law_2321 rfl rfl ?_
  refine tl_mf (X' := tlW cy ad ar o1 o2 cL cD κ b0 u v' w xo xd) (NW1 := tm_NWC) (pre := []) (suf := (tmXB cy (ad 256) κ b0 u ++ (tm_w cy tm_shR ar 13 w ++ tlO o1 o2 cL cD xo xd))) (sh := tm_shC) (n := 256) (ad := ad) (As := []) (fs := [some 0, some 248, none, none, some 249, none, some 250, some 251, some 256]) 247 0 C0 (List.append_assoc _ _ _) (List.append_assoc _ _ _) (fun _ h => h) tm_NWC_ok dL_law_2322 (c_X7_agreement l _) ho rfl rfl (by decide) rfl rfl (tm_gV tl_L_282 ti_X7_agreement ts_X7_agreement tn_X7 tc_X7_agreement) rfl rfl rfl rfl (by decide +kernel) ⟨Nat.le_of_ble_eq_true rfl, Nat.le_of_ble_eq_true rfl⟩ (Nat.le_of_ble_eq_true rfl) ⟨by show _ ≤ 601024; omega, by show _ ≤ 7293034; omega⟩ (fun C0 => ?_)
  refine tl_f2d hn1 C0 dL_law_2325 ?_
  refine tl_dstore [(6, .double (FP.f2d r)), (0, .ref b), (1, .ref (ad 247)), (2, .ref (ar 0)), (3, .ref o1), (4, .ref o2), (5, .int (nI i))] C0 dL_law_2326 (by decide) rfl ?_
  refine tg_aload_n 3 C0 dL_law_2328 rfl rfl ?_
  refine tl_mf (X' := tlW cy ad ar o1 o2 cL cD κ b0 u v' w' xo xd) (NW1 := tm_NWR) (pre := (tm_w cy tm_shC ad 256 v' ++ tmXB cy (ad 256) κ b0 u)) (suf := tlO o1 o2 cL cD xo xd) (sh := tm_shR) (n := 13) (ad := ar) (As := []) (fs := [none, some 1, some 2, none, some 3, some 4, some 5, none, none, none, none, none, some 6, none, some 7, some 8, none, none, none, none, none, none, none, some 9, none, some 10, some 11, some 12]) 0 0 C0 rfl rfl (fun _ _ _ h => by cases h) rfl dL_law_2329 (c_X8_agreement l _) hr rfl rfl (by decide) rfl rfl (tm_gV tl_L_286 ti_X8_agreement ts_X8_agreement tn_X8 tc_X8_agreement) rfl rfl rfl rfl (by decide +kernel) ⟨Nat.le_of_ble_eq_true rfl, Nat.le_of_ble_eq_true rfl⟩ (Nat.le_of_ble_eq_true rfl) ⟨by show _ ≤ 601024; omega, by show _ ≤ 7293034; omega⟩ (fun C0 => ?_)
  refine tl_f2d hn2 C0 dL_law_2332 ?_
  refine tl_dstore [(8, .double (FP.f2d r2)), (6, .double (FP.f2d r)), (0, .ref b), (1, .ref (ad 247)), (2, .ref (ar 0)), (3, .ref o1), (4, .ref o2), (5, .int (nI i))] C0 dL_law_2333 (by decide) rfl ?_
  refine tl_dload 1 C0 dL_law_2335 rfl ?_
  refine tl_dload 0 C0 dL_law_2337 rfl ?_
  refine tl_dcmp hq C0 dL_law_2339 ?_
  refine tg_eq (r := if (0 : Int32) = 0 then some () else none) (by rw [if_pos rfl]) ?_
  refine tg_if_eq 2361 C0 dL_law_2340 (by decide) (fun _ => ?_) (fun q => absurd rfl q)
  refine tg_goto 2790 C0 dL_law_2361 (by decide) ?_
  refine tg_sub (lv' := [(0, .ref b), (1, .ref (ad 247)), (2, .ref (ar 0)), (3, .ref o1), (4, .ref o2), (5, .int (nI i))]) [2, 3, 4, 5, 6, 7] rfl ?_
  exact tl_widen (by omega) (by omega) (cont _ _ _ _ _ _ _ _ C0 hT hR')
-- ----- case 41: readSum
set_option maxRecDepth 100000 in
theorem law_case_41 {p : Program} {l : Launch} {e : Env} {s : State} {m : MethodId} {args : Array Value} {below : List Frame} {meth : Method} {c : Code} {A : Nat → Prop} {D : va_G} {cy : Nat → ClassId} {ad ar : Nat → Nat} {o1 o2 : Nat} {cL cD : ClassId} {adK adV adE : Nat → Nat} {tC : Nat} {Q : State → Prop} {rt : Option FieldType} {cells slots b i L : Nat} {xs : Nat → Int32} {Rel Rel2 : tmM → List Int32 → tmM → Prop} (hl : l.stackTraces = false) (hp : tP_readSum Rel Rel2) (hX : va_X b L xs s s.heap) (hbl : b < s.heap.size) (hbA : ¬ A b) (hi : i + 5 ≤ L ∧ L ≤ 2560) (hE : tmSc adK adV adE tC A s s.heap) (hTh : tmTh A s s.heap) (hF : tlF D cy cL cD s) (hcs : cells + 64 ≤ 601024 ∧ slots + 8000 ≤ 7293034) {κ b0 : Nat} {u v w : tmM} {bs : List Int32} {xo : Int64} {xd : UInt64} (C0 : tmC p s m args meth c cL_law 10 rt RL TMW tm_NWC D cy tm_s0 tm_a0 0 (tlW cy ad ar o1 o2 cL cD κ b0 u v w xo xd) A) (hT : tmTx κ u bs) (hR : Rel v bs w) (cont : ∀ (κ b0 : Nat) (u v w : tmM) (bs : List Int32) (xo : Int64) (xd : UInt64), tmC p s m args meth c cL_law 10 rt RL TMW tm_NWC D cy tm_s0 tm_a0 0 (tlW cy ad ar o1 o2 cL cD κ b0 u v w xo xd) A → tmTx κ u bs → Rel2 v bs w → tmG p l e room_1 s m args below meth c (cells + 64) (slots + 8000) Q 10 D cy tm_s0 tm_a0 0 (tlW cy ad ar o1 o2 cL cD κ b0 u v w xo xd) A () 2790 [(0, .ref b), (1, .ref (ad 247)), (2, .ref (ar 0)), (3, .ref o1), (4, .ref o2), (5, .int (nI i))] [] tm_v0 (some ())) : tmG p l e room_1 s m args below meth c (cells) (slots) Q 10 D cy tm_s0 tm_a0 0 (tlW cy ad ar o1 o2 cL cD κ b0 u v w xo xd) A () 2364 [(0, .ref b), (1, .ref (ad 247)), (2, .ref (ar 0)), (3, .ref o1), (4, .ref o2), (5, .int (nI i))] [] tm_v0 (some ()) := by
  obtain ⟨k, xo', xd', v', bs', r, w1, w2, ho, hr, ht, heq, hR'⟩ := hp (xs (i + 1)) (xs (i + 2)) (xs (i + 3)) v bs w xo xd hR
  refine tg_aload_n 1 C0 dL_law_2364 rfl rfl ?_
  refine tg_aload_n 0 C0 dL_law_2365 rfl rfl ?_
  refine tg_iload 5 C0 dL_law_2366 rfl ?_
  refine tg_iconst (x := nI 1) C0 dL_law_2368 (by decide) ?_
  refine tg_iadd C0 dL_law_2369 ?_
  rw [tl_add i 1]
  refine tl_sld C0 hX hbl hbA (tl_idx (by omega) hi.2) dL_law_2370 ?_
  rw [nI_clamp (show i + 1 < 2147483648 by omega)]
  refine tg_aload_n 0 C0 dL_law_2371 rfl rfl ?_
  refine tg_iload 5 C0 dL_law_2372 rfl ?_
  refine tg_iconst (x := nI 2) C0 dL_law_2374 (by decide) ?_
  refine tg_iadd C0 dL_law_2375 ?_
  rw [tl_add i 2]
  refine tl_sld C0 hX hbl hbA (tl_idx (by omega) hi.2) dL_law_2376 ?_
  rw [nI_clamp (show i + 2 < 2147483648 by omega)]
  refine tg_aload_n 0 C0 dL_law_2377 rfl rfl ?_
  refine tg_iload 5 C0 dL_law_2378 rfl ?_
  refine tg_iconst (x := nI 3) C0 dL_law_2380 (by decide) ?_
  refine tg_iadd C0 dL_law_2381 ?_
  rw [tl_add i 3]
  refine tl_sld C0 hX hbl hbA (tl_idx (by omega) hi.2) dL_law_2382 ?_
  rw [nI_clamp (show i + 3 < 2147483648 by omega)]
  refine tg_aload_n 3 C0 dL_law_2383 rfl rfl ?_
  refine tl_callS (st := []) (st0 := _) (xo' := xo') (xd' := xd') (v' := v') (bs' := bs') 5 C0 hE hTh hF hT dL_law_2384 (cL_c_readSum l hl (xs (i + 1)) (xs (i + 2)) (xs (i + 3)) v bs) ho rfl (tl_gS2 tl_L_287 tst_L_readSum tn_L tc_L_readSum) rfl rfl rfl rfl (by decide +kernel) ⟨Nat.le_of_ble_eq_true rfl, Nat.le_of_ble_eq_true rfl⟩ (Nat.le_of_ble_eq_true rfl) ⟨by show _ ≤ 601024; omega, by show _ ≤ 7293034; omega⟩ (fun κ b0 u hT C0 => ?_)
  refine tg_istore [(6, .int k), (0, .ref b), (1, .ref (ad 247)), (2, .ref (ar 0)), (3, .ref o1), (4, .ref o2), (5, .int (nI i))] C0 dL_law_2387 (by decide) rfl ?_
  refine tg_aload_n 3 C0 dL_law_2389 rfl rfl ?_
  refine tg_aload_n 1 C0 dL_law_2390 rfl rfl ?_
  refine tg_iload 6 C0 dL_law_2391 rfl ?_
  refine tg_iconst (x := nI 1) C0 dL_law_2393 (by decide) ?_
  refine tg_iadd C0 dL_law_2394 ?_
  rw [tl_add i 1]
  refine tl_sld C0 hX hbl hbA (tl_idx (by omega) hi.2) dL_law_2395 ?_
  rw [nI_clamp (show i + 1 < 2147483648 by omega)]
  refine tg_aload_n 1 C0 dL_law_2396 rfl rfl ?_
  refine tg_iload 6 C0 dL_law_2397 rfl ?_
  refine tg_iconst (x := nI 2) C0 dL_law_2399 (by decide) ?_
  refine tg_iadd C0 dL_law_2400 ?_
  rw [tl_add i 2]
  refine tl_sld C0 hX hbl hbA (tl_idx (by omega) hi.2) dL_law_2401 ?_
  rw [nI_clamp (show i + 2 < 2147483648 by omega)]
  refine tg_aload_n 1 C0 dL_law_2402 rfl rfl ?_
  refine tg_iload 6 C0 dL_law_2403 rfl ?_
  refine tg_iconst (x := nI 3) C0 dL_law_2405 (by decide) ?_
  refine tg_iadd C0 dL_law_2406 ?_
  rw [tl_add i 3]
  refine tl_sld C0 hX hbl hbA (tl_idx (by omega) hi.2) dL_law_2407 ?_
  rw [nI_clamp (show i + 3 < 2147483648 by omega)]
  refine tl_mi (X' := tlW cy ad ar o1 o2 cL cD κ b0 u v' w1 xo' xd') (NW1 := tm_NWR) (pre := (tm_w cy tm_shC ad 256 v' ++ tmXB cy (ad 256) κ b0 u)) (suf := tlO o1 o2 cL cD xo' xd') (sh := tm_shR) (n := 13) (ad := ar) (As := [.int (xs (i + 1)), .int (xs (i + 2)), .int (xs (i + 3))]) (fs := [none, some 1, some 2, none, some 3, some 4, some 5, none, none, none, none, none, some 6, none, some 7, some 8, none, none, none, none, none, none, none, some 9, none, some 10, some 11, some 12]) 0 3 C0 rfl rfl (fun _ _ _ h => by cases h) rfl dL_law_2408 (c_X8_readSum l (xs (i + 1)) (xs (i + 2)) (xs (i + 3)) _) hr rfl rfl (by decide) rfl rfl (tm_gV tl_L_290 ti_X8_readSum ts_X8_readSum tn_X8 tc_X8_readSum) rfl rfl rfl rfl (by decide +kernel) ⟨Nat.le_of_ble_eq_true rfl, Nat.le_of_ble_eq_true rfl⟩ (Nat.le_of_ble_eq_true rfl) ⟨by show _ ≤ 601024; omega, by show _ ≤ 7293034; omega⟩ (fun C0 => ?_)
  refine tg_istore [(7, .int r), (6, .int k), (0, .ref b), (1, .ref (ad 247)), (2, .ref (ar 0)), (3, .ref o1), (4, .ref o2), (5, .int (nI i))] C0 dL_law_2411 (by decide) rfl ?_
  refine tg_aload_n 4 C0 dL_law_2413 rfl rfl ?_
  refine tl_mi (X' := tlW cy ad ar o1 o2 cL cD κ b0 u v' w2 xo' xd') (NW1 := tm_NWR) (pre := (tm_w cy tm_shC ad 256 v' ++ tmXB cy (ad 256) κ b0 u)) (suf := tlO o1 o2 cL cD xo' xd') (sh := tm_shR) (n := 13) (ad := ar) (As := []) (fs := [none, some 1, some 2, none, some 3, some 4, some 5, none, none, none, none, none, some 6, none, some 7, some 8, none, none, none, none, none, none, none, some 9, none, some 10, some 11, some 12]) 0 0 C0 rfl rfl (fun _ _ _ h => by cases h) rfl dL_law_2414 (c_X8_thrown l _) ht rfl rfl (by decide) rfl rfl (tm_gV tl_L_145 ti_X8_thrown ts_X8_thrown tn_X8 tc_X8_thrown) rfl rfl rfl rfl (by decide +kernel) ⟨Nat.le_of_ble_eq_true rfl, Nat.le_of_ble_eq_true rfl⟩ (Nat.le_of_ble_eq_true rfl) ⟨by show _ ≤ 601024; omega, by show _ ≤ 7293034; omega⟩ (fun C0 => ?_)
  refine tg_iload 1 C0 dL_law_2417 rfl ?_
  refine tg_eq (r := if k = k then some () else none) (by rw [if_pos rfl]) ?_
  refine tg_icmp_eq 2424 C0 dL_law_2419 (by decide) (fun _ => ?_) (fun q => absurd rfl q)
  refine tg_iload 1 C0 dL_law_2424 rfl ?_
  refine tg_eq (r := if k = 0 then some () else some ()) (by split <;> rfl) ?_
  refine tg_if_ne 2441 C0 dL_law_2426 (by decide) (fun _ => ?_) (fun hk => ?_)
  · refine tg_goto 2790 C0 dL_law_2441 (by decide) ?_
    refine tg_sub (lv' := [(0, .ref b), (1, .ref (ad 247)), (2, .ref (ar 0)), (3, .ref o1), (4, .ref o2), (5, .int (nI i))]) [2, 3, 4, 5, 6, 7] rfl ?_
    exact tl_widen (by omega) (by omega) (cont _ _ _ _ _ _ _ _ C0 hT hR')
  refine tg_aload_n 5 C0 dL_law_2429 rfl rfl ?_
  refine tg_iconst (x := 0) C0 dL_law_2430 (by decide) ?_
  refine tl_lald C0 hF dL_law_2431 ?_
  refine tg_iload 0 C0 dL_law_2432 rfl ?_
  refine tl_i2l C0 dL_law_2434 ?_
  refine tl_lcmp (heq hk) C0 dL_law_2435 ?_
  refine tg_eq (r := if (0 : Int32) = 0 then some () else none) (by rw [if_pos rfl]) ?_
  refine tg_if_eq 2441 C0 dL_law_2436 (by decide) (fun _ => ?_) (fun q => absurd rfl q)
  refine tg_goto 2790 C0 dL_law_2441 (by decide) ?_
  refine tg_sub (lv' := [(0, .ref b), (1, .ref (ad 247)), (2, .ref (ar 0)), (3, .ref o1), (4, .ref o2), (5, .int (nI i))]) [2, 3, 4, 5, 6, 7] rfl ?_
  exact tl_widen (by omega) (by omega) (cont _ _ _ _ _ _ _ _ C0 hT hR')
-- ----- case 42: written
set_option maxRecDepth 100000 in
theorem law_case_42 {p : Program} {l : Launch} {e : Env} {s : State} {m : MethodId} {args : Array Value} {below : List Frame} {meth : Method} {c : Code} {A : Nat → Prop} {D : va_G} {cy : Nat → ClassId} {ad ar : Nat → Nat} {o1 o2 : Nat} {cL cD : ClassId} {adK adV adE : Nat → Nat} {tC : Nat} {Q : State → Prop} {rt : Option FieldType} {cells slots b i L : Nat} {xs : Nat → Int32} {Rel Rel2 : tmM → List Int32 → tmM → Prop} (hl : l.stackTraces = false) (hp : tP_written Rel Rel2) (hX : va_X b L xs s s.heap) (hbl : b < s.heap.size) (hbA : ¬ A b) (hi : i + 5 ≤ L ∧ L ≤ 2560) (hE : tmSc adK adV adE tC A s s.heap) (hTh : tmTh A s s.heap) (hF : tlF D cy cL cD s) (hcs : cells + 64 ≤ 601024 ∧ slots + 8000 ≤ 7293034) {κ b0 : Nat} {u v w : tmM} {bs : List Int32} {xo : Int64} {xd : UInt64} (C0 : tmC p s m args meth c cL_law 10 rt RL TMW tm_NWC D cy tm_s0 tm_a0 0 (tlW cy ad ar o1 o2 cL cD κ b0 u v w xo xd) A) (hT : tmTx κ u bs) (hR : Rel v bs w) (cont : ∀ (κ b0 : Nat) (u v w : tmM) (bs : List Int32) (xo : Int64) (xd : UInt64), tmC p s m args meth c cL_law 10 rt RL TMW tm_NWC D cy tm_s0 tm_a0 0 (tlW cy ad ar o1 o2 cL cD κ b0 u v w xo xd) A → tmTx κ u bs → Rel2 v bs w → tmG p l e room_1 s m args below meth c (cells + 64) (slots + 8000) Q 10 D cy tm_s0 tm_a0 0 (tlW cy ad ar o1 o2 cL cD κ b0 u v w xo xd) A () 2790 [(0, .ref b), (1, .ref (ad 247)), (2, .ref (ar 0)), (3, .ref o1), (4, .ref o2), (5, .int (nI i))] [] tm_v0 (some ())) : tmG p l e room_1 s m args below meth c (cells) (slots) Q 10 D cy tm_s0 tm_a0 0 (tlW cy ad ar o1 o2 cL cD κ b0 u v w xo xd) A () 2444 [(0, .ref b), (1, .ref (ad 247)), (2, .ref (ar 0)), (3, .ref o1), (4, .ref o2), (5, .int (nI i))] [] tm_v0 (some ()) := by
  obtain ⟨k, xo', xd', v', bs', r, w1, w2, ho, hr, ht, heq, hR'⟩ := hp (xs (i + 1)) v bs w xo xd hR
  refine tg_aload_n 1 C0 dL_law_2444 rfl rfl ?_
  refine tg_aload_n 0 C0 dL_law_2445 rfl rfl ?_
  refine tg_iload 5 C0 dL_law_2446 rfl ?_
  refine tg_iconst (x := nI 1) C0 dL_law_2448 (by decide) ?_
  refine tg_iadd C0 dL_law_2449 ?_
  rw [tl_add i 1]
  refine tl_sld C0 hX hbl hbA (tl_idx (by omega) hi.2) dL_law_2450 ?_
  rw [nI_clamp (show i + 1 < 2147483648 by omega)]
  refine tg_aload_n 3 C0 dL_law_2451 rfl rfl ?_
  refine tl_callS (st := []) (st0 := _) (xo' := xo') (xd' := xd') (v' := v') (bs' := bs') 3 C0 hE hTh hF hT dL_law_2452 (cL_c_written l hl (xs (i + 1)) v bs) ho rfl (tl_gS2 tl_L_291 tst_L_written tn_L tc_L_written) rfl rfl rfl rfl (by decide +kernel) ⟨Nat.le_of_ble_eq_true rfl, Nat.le_of_ble_eq_true rfl⟩ (Nat.le_of_ble_eq_true rfl) ⟨by show _ ≤ 601024; omega, by show _ ≤ 7293034; omega⟩ (fun κ b0 u hT C0 => ?_)
  refine tg_istore [(6, .int k), (0, .ref b), (1, .ref (ad 247)), (2, .ref (ar 0)), (3, .ref o1), (4, .ref o2), (5, .int (nI i))] C0 dL_law_2455 (by decide) rfl ?_
  refine tg_aload_n 3 C0 dL_law_2457 rfl rfl ?_
  refine tg_aload_n 1 C0 dL_law_2458 rfl rfl ?_
  refine tg_iload 6 C0 dL_law_2459 rfl ?_
  refine tg_iconst (x := nI 1) C0 dL_law_2461 (by decide) ?_
  refine tg_iadd C0 dL_law_2462 ?_
  rw [tl_add i 1]
  refine tl_sld C0 hX hbl hbA (tl_idx (by omega) hi.2) dL_law_2463 ?_
  rw [nI_clamp (show i + 1 < 2147483648 by omega)]
  refine tl_mi (X' := tlW cy ad ar o1 o2 cL cD κ b0 u v' w1 xo' xd') (NW1 := tm_NWR) (pre := (tm_w cy tm_shC ad 256 v' ++ tmXB cy (ad 256) κ b0 u)) (suf := tlO o1 o2 cL cD xo' xd') (sh := tm_shR) (n := 13) (ad := ar) (As := [.int (xs (i + 1))]) (fs := [none, some 1, some 2, none, some 3, some 4, some 5, none, none, none, none, none, some 6, none, some 7, some 8, none, none, none, none, none, none, none, some 9, none, some 10, some 11, some 12]) 0 1 C0 rfl rfl (fun _ _ _ h => by cases h) rfl dL_law_2464 (c_X8_written l (xs (i + 1)) _) hr rfl rfl (by decide) rfl rfl (tm_gV tl_L_293 ti_X8_written ts_X8_written tn_X8 tc_X8_written) rfl rfl rfl rfl (by decide +kernel) ⟨Nat.le_of_ble_eq_true rfl, Nat.le_of_ble_eq_true rfl⟩ (Nat.le_of_ble_eq_true rfl) ⟨by show _ ≤ 601024; omega, by show _ ≤ 7293034; omega⟩ (fun C0 => ?_)
  refine tg_istore [(7, .int r), (6, .int k), (0, .ref b), (1, .ref (ad 247)), (2, .ref (ar 0)), (3, .ref o1), (4, .ref o2), (5, .int (nI i))] C0 dL_law_2467 (by decide) rfl ?_
  refine tg_aload_n 4 C0 dL_law_2469 rfl rfl ?_
  refine tl_mi (X' := tlW cy ad ar o1 o2 cL cD κ b0 u v' w2 xo' xd') (NW1 := tm_NWR) (pre := (tm_w cy tm_shC ad 256 v' ++ tmXB cy (ad 256) κ b0 u)) (suf := tlO o1 o2 cL cD xo' xd') (sh := tm_shR) (n := 13) (ad := ar) (As := []) (fs := [none, some 1, some 2, none, some 3, some 4, some 5, none, none, none, none, none, some 6, none, some 7, some 8, none, none, none, none, none, none, none, some 9, none, some 10, some 11, some 12]) 0 0 C0 rfl rfl (fun _ _ _ h => by cases h) rfl dL_law_2470 (c_X8_thrown l _) ht rfl rfl (by decide) rfl rfl (tm_gV tl_L_145 ti_X8_thrown ts_X8_thrown tn_X8 tc_X8_thrown) rfl rfl rfl rfl (by decide +kernel) ⟨Nat.le_of_ble_eq_true rfl, Nat.le_of_ble_eq_true rfl⟩ (Nat.le_of_ble_eq_true rfl) ⟨by show _ ≤ 601024; omega, by show _ ≤ 7293034; omega⟩ (fun C0 => ?_)
  refine tg_iload 1 C0 dL_law_2473 rfl ?_
  refine tg_eq (r := if k = k then some () else none) (by rw [if_pos rfl]) ?_
  refine tg_icmp_eq 2480 C0 dL_law_2475 (by decide) (fun _ => ?_) (fun q => absurd rfl q)
  refine tg_iload 1 C0 dL_law_2480 rfl ?_
  refine tg_eq (r := if k = 0 then some () else some ()) (by split <;> rfl) ?_
  refine tg_if_ne 2497 C0 dL_law_2482 (by decide) (fun _ => ?_) (fun hk => ?_)
  · refine tg_goto 2790 C0 dL_law_2497 (by decide) ?_
    refine tg_sub (lv' := [(0, .ref b), (1, .ref (ad 247)), (2, .ref (ar 0)), (3, .ref o1), (4, .ref o2), (5, .int (nI i))]) [2, 3, 4, 5, 6, 7] rfl ?_
    exact tl_widen (by omega) (by omega) (cont _ _ _ _ _ _ _ _ C0 hT hR')
  refine tg_aload_n 5 C0 dL_law_2485 rfl rfl ?_
  refine tg_iconst (x := 0) C0 dL_law_2486 (by decide) ?_
  refine tl_lald C0 hF dL_law_2487 ?_
  refine tg_iload 0 C0 dL_law_2488 rfl ?_
  refine tl_i2l C0 dL_law_2490 ?_
  refine tl_lcmp (heq hk) C0 dL_law_2491 ?_
  refine tg_eq (r := if (0 : Int32) = 0 then some () else none) (by rw [if_pos rfl]) ?_
  refine tg_if_eq 2497 C0 dL_law_2492 (by decide) (fun _ => ?_) (fun q => absurd rfl q)
  refine tg_goto 2790 C0 dL_law_2497 (by decide) ?_
  refine tg_sub (lv' := [(0, .ref b), (1, .ref (ad 247)), (2, .ref (ar 0)), (3, .ref o1), (4, .ref o2), (5, .int (nI i))]) [2, 3, 4, 5, 6, 7] rfl ?_
  exact tl_widen (by omega) (by omega) (cont _ _ _ _ _ _ _ _ C0 hT hR')
-- ----- case 43: changed
set_option maxRecDepth 100000 in
theorem law_case_43 {p : Program} {l : Launch} {e : Env} {s : State} {m : MethodId} {args : Array Value} {below : List Frame} {meth : Method} {c : Code} {A : Nat → Prop} {D : va_G} {cy : Nat → ClassId} {ad ar : Nat → Nat} {o1 o2 : Nat} {cL cD : ClassId} {adK adV adE : Nat → Nat} {tC : Nat} {Q : State → Prop} {rt : Option FieldType} {cells slots b i L : Nat} {xs : Nat → Int32} {Rel Rel2 : tmM → List Int32 → tmM → Prop} (hl : l.stackTraces = false) (hp : tP_changed Rel Rel2) (hX : va_X b L xs s s.heap) (hbl : b < s.heap.size) (hbA : ¬ A b) (hi : i + 5 ≤ L ∧ L ≤ 2560) (hE : tmSc adK adV adE tC A s s.heap) (hTh : tmTh A s s.heap) (hF : tlF D cy cL cD s) (hcs : cells + 64 ≤ 601024 ∧ slots + 8000 ≤ 7293034) {κ b0 : Nat} {u v w : tmM} {bs : List Int32} {xo : Int64} {xd : UInt64} (C0 : tmC p s m args meth c cL_law 10 rt RL TMW tm_NWC D cy tm_s0 tm_a0 0 (tlW cy ad ar o1 o2 cL cD κ b0 u v w xo xd) A) (hT : tmTx κ u bs) (hR : Rel v bs w) (cont : ∀ (κ b0 : Nat) (u v w : tmM) (bs : List Int32) (xo : Int64) (xd : UInt64), tmC p s m args meth c cL_law 10 rt RL TMW tm_NWC D cy tm_s0 tm_a0 0 (tlW cy ad ar o1 o2 cL cD κ b0 u v w xo xd) A → tmTx κ u bs → Rel2 v bs w → tmG p l e room_1 s m args below meth c (cells + 64) (slots + 8000) Q 10 D cy tm_s0 tm_a0 0 (tlW cy ad ar o1 o2 cL cD κ b0 u v w xo xd) A () 2790 [(0, .ref b), (1, .ref (ad 247)), (2, .ref (ar 0)), (3, .ref o1), (4, .ref o2), (5, .int (nI i))] [] tm_v0 (some ())) : tmG p l e room_1 s m args below meth c (cells) (slots) Q 10 D cy tm_s0 tm_a0 0 (tlW cy ad ar o1 o2 cL cD κ b0 u v w xo xd) A () 2500 [(0, .ref b), (1, .ref (ad 247)), (2, .ref (ar 0)), (3, .ref o1), (4, .ref o2), (5, .int (nI i))] [] tm_v0 (some ()) := by
  obtain ⟨k, xo', xd', v', bs', r, w1, w2, ho, hr, ht, heq, hR'⟩ := hp (xs (i + 1)) v bs w xo xd hR
  refine tg_aload_n 1 C0 dL_law_2500 rfl rfl ?_
  refine tg_aload_n 0 C0 dL_law_2501 rfl rfl ?_
  refine tg_iload 5 C0 dL_law_2502 rfl ?_
  refine tg_iconst (x := nI 1) C0 dL_law_2504 (by decide) ?_
  refine tg_iadd C0 dL_law_2505 ?_
  rw [tl_add i 1]
  refine tl_sld C0 hX hbl hbA (tl_idx (by omega) hi.2) dL_law_2506 ?_
  rw [nI_clamp (show i + 1 < 2147483648 by omega)]
  refine tg_aload_n 3 C0 dL_law_2507 rfl rfl ?_
  refine tl_callS (st := []) (st0 := _) (xo' := xo') (xd' := xd') (v' := v') (bs' := bs') 3 C0 hE hTh hF hT dL_law_2508 (cL_c_changed l hl (xs (i + 1)) v bs) ho rfl (tl_gS2 tl_L_294 tst_L_changed tn_L tc_L_changed) rfl rfl rfl rfl (by decide +kernel) ⟨Nat.le_of_ble_eq_true rfl, Nat.le_of_ble_eq_true rfl⟩ (Nat.le_of_ble_eq_true rfl) ⟨by show _ ≤ 601024; omega, by show _ ≤ 7293034; omega⟩ (fun κ b0 u hT C0 => ?_)
  refine tg_istore [(6, .int k), (0, .ref b), (1, .ref (ad 247)), (2, .ref (ar 0)), (3, .ref o1), (4, .ref o2), (5, .int (nI i))] C0 dL_law_2511 (by decide) rfl ?_
  refine tg_aload_n 3 C0 dL_law_2513 rfl rfl ?_
  refine tg_aload_n 1 C0 dL_law_2514 rfl rfl ?_
  refine tg_iload 6 C0 dL_law_2515 rfl ?_
  refine tg_iconst (x := nI 1) C0 dL_law_2517 (by decide) ?_
  refine tg_iadd C0 dL_law_2518 ?_
  rw [tl_add i 1]
  refine tl_sld C0 hX hbl hbA (tl_idx (by omega) hi.2) dL_law_2519 ?_
  rw [nI_clamp (show i + 1 < 2147483648 by omega)]
  refine tl_mi (X' := tlW cy ad ar o1 o2 cL cD κ b0 u v' w1 xo' xd') (NW1 := tm_NWR) (pre := (tm_w cy tm_shC ad 256 v' ++ tmXB cy (ad 256) κ b0 u)) (suf := tlO o1 o2 cL cD xo' xd') (sh := tm_shR) (n := 13) (ad := ar) (As := [.int (xs (i + 1))]) (fs := [none, some 1, some 2, none, some 3, some 4, some 5, none, none, none, none, none, some 6, none, some 7, some 8, none, none, none, none, none, none, none, some 9, none, some 10, some 11, some 12]) 0 1 C0 rfl rfl (fun _ _ _ h => by cases h) rfl dL_law_2520 (c_X8_changed l (xs (i + 1)) _) hr rfl rfl (by decide) rfl rfl (tm_gV tl_L_296 ti_X8_changed ts_X8_changed tn_X8 tc_X8_changed) rfl rfl rfl rfl (by decide +kernel) ⟨Nat.le_of_ble_eq_true rfl, Nat.le_of_ble_eq_true rfl⟩ (Nat.le_of_ble_eq_true rfl) ⟨by show _ ≤ 601024; omega, by show _ ≤ 7293034; omega⟩ (fun C0 => ?_)
  refine tg_istore [(7, .int r), (6, .int k), (0, .ref b), (1, .ref (ad 247)), (2, .ref (ar 0)), (3, .ref o1), (4, .ref o2), (5, .int (nI i))] C0 dL_law_2523 (by decide) rfl ?_
  refine tg_aload_n 4 C0 dL_law_2525 rfl rfl ?_
  refine tl_mi (X' := tlW cy ad ar o1 o2 cL cD κ b0 u v' w2 xo' xd') (NW1 := tm_NWR) (pre := (tm_w cy tm_shC ad 256 v' ++ tmXB cy (ad 256) κ b0 u)) (suf := tlO o1 o2 cL cD xo' xd') (sh := tm_shR) (n := 13) (ad := ar) (As := []) (fs := [none, some 1, some 2, none, some 3, some 4, some 5, none, none, none, none, none, some 6, none, some 7, some 8, none, none, none, none, none, none, none, some 9, none, some 10, some 11, some 12]) 0 0 C0 rfl rfl (fun _ _ _ h => by cases h) rfl dL_law_2526 (c_X8_thrown l _) ht rfl rfl (by decide) rfl rfl (tm_gV tl_L_145 ti_X8_thrown ts_X8_thrown tn_X8 tc_X8_thrown) rfl rfl rfl rfl (by decide +kernel) ⟨Nat.le_of_ble_eq_true rfl, Nat.le_of_ble_eq_true rfl⟩ (Nat.le_of_ble_eq_true rfl) ⟨by show _ ≤ 601024; omega, by show _ ≤ 7293034; omega⟩ (fun C0 => ?_)
  refine tg_iload 1 C0 dL_law_2529 rfl ?_
  refine tg_eq (r := if k = k then some () else none) (by rw [if_pos rfl]) ?_
  refine tg_icmp_eq 2536 C0 dL_law_2531 (by decide) (fun _ => ?_) (fun q => absurd rfl q)
  refine tg_iload 1 C0 dL_law_2536 rfl ?_
  refine tg_eq (r := if k = 0 then some () else some ()) (by split <;> rfl) ?_
  refine tg_if_ne 2553 C0 dL_law_2538 (by decide) (fun _ => ?_) (fun hk => ?_)
  · refine tg_goto 2790 C0 dL_law_2553 (by decide) ?_
    refine tg_sub (lv' := [(0, .ref b), (1, .ref (ad 247)), (2, .ref (ar 0)), (3, .ref o1), (4, .ref o2), (5, .int (nI i))]) [2, 3, 4, 5, 6, 7] rfl ?_
    exact tl_widen (by omega) (by omega) (cont _ _ _ _ _ _ _ _ C0 hT hR')
  refine tg_aload_n 5 C0 dL_law_2541 rfl rfl ?_
  refine tg_iconst (x := 0) C0 dL_law_2542 (by decide) ?_
  refine tl_lald C0 hF dL_law_2543 ?_
  refine tg_iload 0 C0 dL_law_2544 rfl ?_
  refine tl_i2l C0 dL_law_2546 ?_
  refine tl_lcmp (heq hk) C0 dL_law_2547 ?_
  refine tg_eq (r := if (0 : Int32) = 0 then some () else none) (by rw [if_pos rfl]) ?_
  refine tg_if_eq 2553 C0 dL_law_2548 (by decide) (fun _ => ?_) (fun q => absurd rfl q)
  refine tg_goto 2790 C0 dL_law_2553 (by decide) ?_
  refine tg_sub (lv' := [(0, .ref b), (1, .ref (ad 247)), (2, .ref (ar 0)), (3, .ref o1), (4, .ref o2), (5, .int (nI i))]) [2, 3, 4, 5, 6, 7] rfl ?_
  exact tl_widen (by omega) (by omega) (cont _ _ _ _ _ _ _ _ C0 hT hR')
-- ----- case 44: eventsOf
set_option maxRecDepth 100000 in
theorem law_case_44 {p : Program} {l : Launch} {e : Env} {s : State} {m : MethodId} {args : Array Value} {below : List Frame} {meth : Method} {c : Code} {A : Nat → Prop} {D : va_G} {cy : Nat → ClassId} {ad ar : Nat → Nat} {o1 o2 : Nat} {cL cD : ClassId} {adK adV adE : Nat → Nat} {tC : Nat} {Q : State → Prop} {rt : Option FieldType} {cells slots b i L : Nat} {xs : Nat → Int32} {Rel Rel2 : tmM → List Int32 → tmM → Prop} (hl : l.stackTraces = false) (hp : tP_eventsOf Rel Rel2) (hX : va_X b L xs s s.heap) (hbl : b < s.heap.size) (hbA : ¬ A b) (hi : i + 5 ≤ L ∧ L ≤ 2560) (hE : tmSc adK adV adE tC A s s.heap) (hTh : tmTh A s s.heap) (hF : tlF D cy cL cD s) (hcs : cells + 64 ≤ 601024 ∧ slots + 8000 ≤ 7293034) {κ b0 : Nat} {u v w : tmM} {bs : List Int32} {xo : Int64} {xd : UInt64} (C0 : tmC p s m args meth c cL_law 10 rt RL TMW tm_NWC D cy tm_s0 tm_a0 0 (tlW cy ad ar o1 o2 cL cD κ b0 u v w xo xd) A) (hT : tmTx κ u bs) (hR : Rel v bs w) (cont : ∀ (κ b0 : Nat) (u v w : tmM) (bs : List Int32) (xo : Int64) (xd : UInt64), tmC p s m args meth c cL_law 10 rt RL TMW tm_NWC D cy tm_s0 tm_a0 0 (tlW cy ad ar o1 o2 cL cD κ b0 u v w xo xd) A → tmTx κ u bs → Rel2 v bs w → tmG p l e room_1 s m args below meth c (cells + 64) (slots + 8000) Q 10 D cy tm_s0 tm_a0 0 (tlW cy ad ar o1 o2 cL cD κ b0 u v w xo xd) A () 2790 [(0, .ref b), (1, .ref (ad 247)), (2, .ref (ar 0)), (3, .ref o1), (4, .ref o2), (5, .int (nI i))] [] tm_v0 (some ())) : tmG p l e room_1 s m args below meth c (cells) (slots) Q 10 D cy tm_s0 tm_a0 0 (tlW cy ad ar o1 o2 cL cD κ b0 u v w xo xd) A () 2556 [(0, .ref b), (1, .ref (ad 247)), (2, .ref (ar 0)), (3, .ref o1), (4, .ref o2), (5, .int (nI i))] [] tm_v0 (some ()) := by
  obtain ⟨k, xo', xd', v', bs', r, w1, w2, ho, hr, ht, heq, hR'⟩ := hp (xs (i + 1)) (xs (i + 2)) v bs w xo xd hR
  refine tg_aload_n 1 C0 dL_law_2556 rfl rfl ?_
  refine tg_aload_n 0 C0 dL_law_2557 rfl rfl ?_
  refine tg_iload 5 C0 dL_law_2558 rfl ?_
  refine tg_iconst (x := nI 1) C0 dL_law_2560 (by decide) ?_
  refine tg_iadd C0 dL_law_2561 ?_
  rw [tl_add i 1]
  refine tl_sld C0 hX hbl hbA (tl_idx (by omega) hi.2) dL_law_2562 ?_
  rw [nI_clamp (show i + 1 < 2147483648 by omega)]
  refine tg_aload_n 0 C0 dL_law_2563 rfl rfl ?_
  refine tg_iload 5 C0 dL_law_2564 rfl ?_
  refine tg_iconst (x := nI 2) C0 dL_law_2566 (by decide) ?_
  refine tg_iadd C0 dL_law_2567 ?_
  rw [tl_add i 2]
  refine tl_sld C0 hX hbl hbA (tl_idx (by omega) hi.2) dL_law_2568 ?_
  rw [nI_clamp (show i + 2 < 2147483648 by omega)]
  refine tg_aload_n 3 C0 dL_law_2569 rfl rfl ?_
  refine tl_callS (st := []) (st0 := _) (xo' := xo') (xd' := xd') (v' := v') (bs' := bs') 4 C0 hE hTh hF hT dL_law_2570 (cL_c_eventsOf l hl (xs (i + 1)) (xs (i + 2)) v bs) ho rfl (tl_gS2 tl_L_297 tst_L_eventsOf tn_L tc_L_eventsOf) rfl rfl rfl rfl (by decide +kernel) ⟨Nat.le_of_ble_eq_true rfl, Nat.le_of_ble_eq_true rfl⟩ (Nat.le_of_ble_eq_true rfl) ⟨by show _ ≤ 601024; omega, by show _ ≤ 7293034; omega⟩ (fun κ b0 u hT C0 => ?_)
  refine tg_istore [(6, .int k), (0, .ref b), (1, .ref (ad 247)), (2, .ref (ar 0)), (3, .ref o1), (4, .ref o2), (5, .int (nI i))] C0 dL_law_2573 (by decide) rfl ?_
  refine tg_aload_n 3 C0 dL_law_2575 rfl rfl ?_
  refine tg_aload_n 1 C0 dL_law_2576 rfl rfl ?_
  refine tg_iload 6 C0 dL_law_2577 rfl ?_
  refine tg_iconst (x := nI 1) C0 dL_law_2579 (by decide) ?_
  refine tg_iadd C0 dL_law_2580 ?_
  rw [tl_add i 1]
  refine tl_sld C0 hX hbl hbA (tl_idx (by omega) hi.2) dL_law_2581 ?_
  rw [nI_clamp (show i + 1 < 2147483648 by omega)]
  refine tg_aload_n 1 C0 dL_law_2582 rfl rfl ?_
  refine tg_iload 6 C0 dL_law_2583 rfl ?_
  refine tg_iconst (x := nI 2) C0 dL_law_2585 (by decide) ?_
  refine tg_iadd C0 dL_law_2586 ?_
  rw [tl_add i 2]
  refine tl_sld C0 hX hbl hbA (tl_idx (by omega) hi.2) dL_law_2587 ?_
  rw [nI_clamp (show i + 2 < 2147483648 by omega)]
  refine tl_mi (X' := tlW cy ad ar o1 o2 cL cD κ b0 u v' w1 xo' xd') (NW1 := tm_NWR) (pre := (tm_w cy tm_shC ad 256 v' ++ tmXB cy (ad 256) κ b0 u)) (suf := tlO o1 o2 cL cD xo' xd') (sh := tm_shR) (n := 13) (ad := ar) (As := [.int (xs (i + 1)), .int (xs (i + 2))]) (fs := [none, some 1, some 2, none, some 3, some 4, some 5, none, none, none, none, none, some 6, none, some 7, some 8, none, none, none, none, none, none, none, some 9, none, some 10, some 11, some 12]) 0 2 C0 rfl rfl (fun _ _ _ h => by cases h) rfl dL_law_2588 (c_X8_eventsOf l (xs (i + 1)) (xs (i + 2)) _) hr rfl rfl (by decide) rfl rfl (tm_gV tl_L_299 ti_X8_eventsOf ts_X8_eventsOf tn_X8 tc_X8_eventsOf) rfl rfl rfl rfl (by decide +kernel) ⟨Nat.le_of_ble_eq_true rfl, Nat.le_of_ble_eq_true rfl⟩ (Nat.le_of_ble_eq_true rfl) ⟨by show _ ≤ 601024; omega, by show _ ≤ 7293034; omega⟩ (fun C0 => ?_)
  refine tg_istore [(7, .int r), (6, .int k), (0, .ref b), (1, .ref (ad 247)), (2, .ref (ar 0)), (3, .ref o1), (4, .ref o2), (5, .int (nI i))] C0 dL_law_2591 (by decide) rfl ?_
  refine tg_aload_n 4 C0 dL_law_2593 rfl rfl ?_
  refine tl_mi (X' := tlW cy ad ar o1 o2 cL cD κ b0 u v' w2 xo' xd') (NW1 := tm_NWR) (pre := (tm_w cy tm_shC ad 256 v' ++ tmXB cy (ad 256) κ b0 u)) (suf := tlO o1 o2 cL cD xo' xd') (sh := tm_shR) (n := 13) (ad := ar) (As := []) (fs := [none, some 1, some 2, none, some 3, some 4, some 5, none, none, none, none, none, some 6, none, some 7, some 8, none, none, none, none, none, none, none, some 9, none, some 10, some 11, some 12]) 0 0 C0 rfl rfl (fun _ _ _ h => by cases h) rfl dL_law_2594 (c_X8_thrown l _) ht rfl rfl (by decide) rfl rfl (tm_gV tl_L_145 ti_X8_thrown ts_X8_thrown tn_X8 tc_X8_thrown) rfl rfl rfl rfl (by decide +kernel) ⟨Nat.le_of_ble_eq_true rfl, Nat.le_of_ble_eq_true rfl⟩ (Nat.le_of_ble_eq_true rfl) ⟨by show _ ≤ 601024; omega, by show _ ≤ 7293034; omega⟩ (fun C0 => ?_)
  refine tg_iload 1 C0 dL_law_2597 rfl ?_
  refine tg_eq (r := if k = k then some () else none) (by rw [if_pos rfl]) ?_
  refine tg_icmp_eq 2604 C0 dL_law_2599 (by decide) (fun _ => ?_) (fun q => absurd rfl q)
  refine tg_iload 1 C0 dL_law_2604 rfl ?_
  refine tg_eq (r := if k = 0 then some () else some ()) (by split <;> rfl) ?_
  refine tg_if_ne 2621 C0 dL_law_2606 (by decide) (fun _ => ?_) (fun hk => ?_)
  · refine tg_goto 2790 C0 dL_law_2621 (by decide) ?_
    refine tg_sub (lv' := [(0, .ref b), (1, .ref (ad 247)), (2, .ref (ar 0)), (3, .ref o1), (4, .ref o2), (5, .int (nI i))]) [2, 3, 4, 5, 6, 7] rfl ?_
    exact tl_widen (by omega) (by omega) (cont _ _ _ _ _ _ _ _ C0 hT hR')
  refine tg_aload_n 5 C0 dL_law_2609 rfl rfl ?_
  refine tg_iconst (x := 0) C0 dL_law_2610 (by decide) ?_
  refine tl_lald C0 hF dL_law_2611 ?_
  refine tg_iload 0 C0 dL_law_2612 rfl ?_
  refine tl_i2l C0 dL_law_2614 ?_
  refine tl_lcmp (heq hk) C0 dL_law_2615 ?_
  refine tg_eq (r := if (0 : Int32) = 0 then some () else none) (by rw [if_pos rfl]) ?_
  refine tg_if_eq 2621 C0 dL_law_2616 (by decide) (fun _ => ?_) (fun q => absurd rfl q)
  refine tg_goto 2790 C0 dL_law_2621 (by decide) ?_
  refine tg_sub (lv' := [(0, .ref b), (1, .ref (ad 247)), (2, .ref (ar 0)), (3, .ref o1), (4, .ref o2), (5, .int (nI i))]) [2, 3, 4, 5, 6, 7] rfl ?_
  exact tl_widen (by omega) (by omega) (cont _ _ _ _ _ _ _ _ C0 hT hR')
-- ----- case 45: write
set_option maxRecDepth 100000 in
theorem law_case_45 {p : Program} {l : Launch} {e : Env} {s : State} {m : MethodId} {args : Array Value} {below : List Frame} {meth : Method} {c : Code} {A : Nat → Prop} {D : va_G} {cy : Nat → ClassId} {ad ar : Nat → Nat} {o1 o2 : Nat} {cL cD : ClassId} {adK adV adE : Nat → Nat} {tC : Nat} {Q : State → Prop} {rt : Option FieldType} {cells slots b i L : Nat} {xs : Nat → Int32} {Rel Rel2 : tmM → List Int32 → tmM → Prop} (hl : l.stackTraces = false) (hp : tP_write Rel Rel2) (hX : va_X b L xs s s.heap) (hbl : b < s.heap.size) (hbA : ¬ A b) (hi : i + 5 ≤ L ∧ L ≤ 2560) (hE : tmSc adK adV adE tC A s s.heap) (hTh : tmTh A s s.heap) (hF : tlF D cy cL cD s) (hcs : cells + 64 ≤ 601024 ∧ slots + 8000 ≤ 7293034) {κ b0 : Nat} {u v w : tmM} {bs : List Int32} {xo : Int64} {xd : UInt64} (C0 : tmC p s m args meth c cL_law 10 rt RL TMW tm_NWC D cy tm_s0 tm_a0 0 (tlW cy ad ar o1 o2 cL cD κ b0 u v w xo xd) A) (hT : tmTx κ u bs) (hR : Rel v bs w) (cont : ∀ (κ b0 : Nat) (u v w : tmM) (bs : List Int32) (xo : Int64) (xd : UInt64), tmC p s m args meth c cL_law 10 rt RL TMW tm_NWC D cy tm_s0 tm_a0 0 (tlW cy ad ar o1 o2 cL cD κ b0 u v w xo xd) A → tmTx κ u bs → Rel2 v bs w → tmG p l e room_1 s m args below meth c (cells + 64) (slots + 8000) Q 10 D cy tm_s0 tm_a0 0 (tlW cy ad ar o1 o2 cL cD κ b0 u v w xo xd) A () 2790 [(0, .ref b), (1, .ref (ad 247)), (2, .ref (ar 0)), (3, .ref o1), (4, .ref o2), (5, .int (nI i))] [] tm_v0 (some ())) : tmG p l e room_1 s m args below meth c (cells) (slots) Q 10 D cy tm_s0 tm_a0 0 (tlW cy ad ar o1 o2 cL cD κ b0 u v w xo xd) A () 2624 [(0, .ref b), (1, .ref (ad 247)), (2, .ref (ar 0)), (3, .ref o1), (4, .ref o2), (5, .int (nI i))] [] tm_v0 (some ()) := by
  obtain ⟨k, xo', xd', v', bs', r, w1, w2, ho, hr, ht, heq, hR'⟩ := hp (xs (i + 1)) v bs w xo xd hR
  refine tg_aload_n 1 C0 dL_law_2624 rfl rfl ?_
  refine tg_aload_n 0 C0 dL_law_2625 rfl rfl ?_
  refine tg_iload 5 C0 dL_law_2626 rfl ?_
  refine tg_iconst (x := nI 1) C0 dL_law_2628 (by decide) ?_
  refine tg_iadd C0 dL_law_2629 ?_
  rw [tl_add i 1]
  refine tl_sld C0 hX hbl hbA (tl_idx (by omega) hi.2) dL_law_2630 ?_
  rw [nI_clamp (show i + 1 < 2147483648 by omega)]
  refine tg_aload_n 3 C0 dL_law_2631 rfl rfl ?_
  refine tl_callS (st := []) (st0 := _) (xo' := xo') (xd' := xd') (v' := v') (bs' := bs') 3 C0 hE hTh hF hT dL_law_2632 (cL_c_write l hl (xs (i + 1)) v bs) ho rfl (tl_gS2 tl_L_300 tst_L_write tn_L tc_L_write) rfl rfl rfl rfl (by decide +kernel) ⟨Nat.le_of_ble_eq_true rfl, Nat.le_of_ble_eq_true rfl⟩ (Nat.le_of_ble_eq_true rfl) ⟨by show _ ≤ 601024; omega, by show _ ≤ 7293034; omega⟩ (fun κ b0 u hT C0 => ?_)
  refine tg_istore [(6, .int k), (0, .ref b), (1, .ref (ad 247)), (2, .ref (ar 0)), (3, .ref o1), (4, .ref o2), (5, .int (nI i))] C0 dL_law_2635 (by decide) rfl ?_
  refine tg_aload_n 3 C0 dL_law_2637 rfl rfl ?_
  refine tg_aload_n 1 C0 dL_law_2638 rfl rfl ?_
  refine tg_iload 6 C0 dL_law_2639 rfl ?_
  refine tg_iconst (x := nI 1) C0 dL_law_2641 (by decide) ?_
  refine tg_iadd C0 dL_law_2642 ?_
  rw [tl_add i 1]
  refine tl_sld C0 hX hbl hbA (tl_idx (by omega) hi.2) dL_law_2643 ?_
  rw [nI_clamp (show i + 1 < 2147483648 by omega)]
  refine tl_mi (X' := tlW cy ad ar o1 o2 cL cD κ b0 u v' w1 xo' xd') (NW1 := tm_NWR) (pre := (tm_w cy tm_shC ad 256 v' ++ tmXB cy (ad 256) κ b0 u)) (suf := tlO o1 o2 cL cD xo' xd') (sh := tm_shR) (n := 13) (ad := ar) (As := [.int (xs (i + 1))]) (fs := [none, some 1, some 2, none, some 3, some 4, some 5, none, none, none, none, none, some 6, none, some 7, some 8, none, none, none, none, none, none, none, some 9, none, some 10, some 11, some 12]) 0 1 C0 rfl rfl (fun _ _ _ h => by cases h) rfl dL_law_2644 (c_X8_write l (xs (i + 1)) _) hr rfl rfl (by decide) rfl rfl (tm_gV tl_L_302 ti_X8_write ts_X8_write tn_X8 tc_X8_write) rfl rfl rfl rfl (by decide +kernel) ⟨Nat.le_of_ble_eq_true rfl, Nat.le_of_ble_eq_true rfl⟩ (Nat.le_of_ble_eq_true rfl) ⟨by show _ ≤ 601024; omega, by show _ ≤ 7293034; omega⟩ (fun C0 => ?_)
  refine tg_istore [(7, .int r), (6, .int k), (0, .ref b), (1, .ref (ad 247)), (2, .ref (ar 0)), (3, .ref o1), (4, .ref o2), (5, .int (nI i))] C0 dL_law_2647 (by decide) rfl ?_
  refine tg_aload_n 4 C0 dL_law_2649 rfl rfl ?_
  refine tl_mi (X' := tlW cy ad ar o1 o2 cL cD κ b0 u v' w2 xo' xd') (NW1 := tm_NWR) (pre := (tm_w cy tm_shC ad 256 v' ++ tmXB cy (ad 256) κ b0 u)) (suf := tlO o1 o2 cL cD xo' xd') (sh := tm_shR) (n := 13) (ad := ar) (As := []) (fs := [none, some 1, some 2, none, some 3, some 4, some 5, none, none, none, none, none, some 6, none, some 7, some 8, none, none, none, none, none, none, none, some 9, none, some 10, some 11, some 12]) 0 0 C0 rfl rfl (fun _ _ _ h => by cases h) rfl dL_law_2650 (c_X8_thrown l _) ht rfl rfl (by decide) rfl rfl (tm_gV tl_L_145 ti_X8_thrown ts_X8_thrown tn_X8 tc_X8_thrown) rfl rfl rfl rfl (by decide +kernel) ⟨Nat.le_of_ble_eq_true rfl, Nat.le_of_ble_eq_true rfl⟩ (Nat.le_of_ble_eq_true rfl) ⟨by show _ ≤ 601024; omega, by show _ ≤ 7293034; omega⟩ (fun C0 => ?_)
  refine tg_iload 1 C0 dL_law_2653 rfl ?_
  refine tg_eq (r := if k = k then some () else none) (by rw [if_pos rfl]) ?_
  refine tg_icmp_eq 2660 C0 dL_law_2655 (by decide) (fun _ => ?_) (fun q => absurd rfl q)
  refine tg_iload 1 C0 dL_law_2660 rfl ?_
  refine tg_eq (r := if k = 0 then some () else some ()) (by split <;> rfl) ?_
  refine tg_if_ne 2677 C0 dL_law_2662 (by decide) (fun _ => ?_) (fun hk => ?_)
  · refine tg_goto 2790 C0 dL_law_2677 (by decide) ?_
    refine tg_sub (lv' := [(0, .ref b), (1, .ref (ad 247)), (2, .ref (ar 0)), (3, .ref o1), (4, .ref o2), (5, .int (nI i))]) [2, 3, 4, 5, 6, 7] rfl ?_
    exact tl_widen (by omega) (by omega) (cont _ _ _ _ _ _ _ _ C0 hT hR')
  refine tg_aload_n 5 C0 dL_law_2665 rfl rfl ?_
  refine tg_iconst (x := 0) C0 dL_law_2666 (by decide) ?_
  refine tl_lald C0 hF dL_law_2667 ?_
  refine tg_iload 0 C0 dL_law_2668 rfl ?_
  refine tl_i2l C0 dL_law_2670 ?_
  refine tl_lcmp (heq hk) C0 dL_law_2671 ?_
  refine tg_eq (r := if (0 : Int32) = 0 then some () else none) (by rw [if_pos rfl]) ?_
  refine tg_if_eq 2677 C0 dL_law_2672 (by decide) (fun _ => ?_) (fun q => absurd rfl q)
  refine tg_goto 2790 C0 dL_law_2677 (by decide) ?_
  refine tg_sub (lv' := [(0, .ref b), (1, .ref (ad 247)), (2, .ref (ar 0)), (3, .ref o1), (4, .ref o2), (5, .int (nI i))]) [2, 3, 4, 5, 6, 7] rfl ?_
  exact tl_widen (by omega) (by omega) (cont _ _ _ _ _ _ _ _ C0 hT hR')
-- ----- case 46: output
set_option maxRecDepth 100000 in
theorem law_case_46 {p : Program} {l : Launch} {e : Env} {s : State} {m : MethodId} {args : Array Value} {below : List Frame} {meth : Method} {c : Code} {A : Nat → Prop} {D : va_G} {cy : Nat → ClassId} {ad ar : Nat → Nat} {o1 o2 : Nat} {cL cD : ClassId} {adK adV adE : Nat → Nat} {tC : Nat} {Q : State → Prop} {rt : Option FieldType} {cells slots b i L : Nat} {xs : Nat → Int32} {Rel Rel2 : tmM → List Int32 → tmM → Prop} (hl : l.stackTraces = false) (hp : tP_output Rel Rel2) (hX : va_X b L xs s s.heap) (hbl : b < s.heap.size) (hbA : ¬ A b) (hi : i + 5 ≤ L ∧ L ≤ 2560) (hE : tmSc adK adV adE tC A s s.heap) (hTh : tmTh A s s.heap) (hF : tlF D cy cL cD s) (hcs : cells + 64 ≤ 601024 ∧ slots + 8000 ≤ 7293034) {κ b0 : Nat} {u v w : tmM} {bs : List Int32} {xo : Int64} {xd : UInt64} (C0 : tmC p s m args meth c cL_law 10 rt RL TMW tm_NWC D cy tm_s0 tm_a0 0 (tlW cy ad ar o1 o2 cL cD κ b0 u v w xo xd) A) (hT : tmTx κ u bs) (hR : Rel v bs w) (cont : ∀ (κ b0 : Nat) (u v w : tmM) (bs : List Int32) (xo : Int64) (xd : UInt64), tmC p s m args meth c cL_law 10 rt RL TMW tm_NWC D cy tm_s0 tm_a0 0 (tlW cy ad ar o1 o2 cL cD κ b0 u v w xo xd) A → tmTx κ u bs → Rel2 v bs w → tmG p l e room_1 s m args below meth c (cells + 64) (slots + 8000) Q 10 D cy tm_s0 tm_a0 0 (tlW cy ad ar o1 o2 cL cD κ b0 u v w xo xd) A () 2790 [(0, .ref b), (1, .ref (ad 247)), (2, .ref (ar 0)), (3, .ref o1), (4, .ref o2), (5, .int (nI i))] [] tm_v0 (some ())) : tmG p l e room_1 s m args below meth c (cells) (slots) Q 10 D cy tm_s0 tm_a0 0 (tlW cy ad ar o1 o2 cL cD κ b0 u v w xo xd) A () 2680 [(0, .ref b), (1, .ref (ad 247)), (2, .ref (ar 0)), (3, .ref o1), (4, .ref o2), (5, .int (nI i))] [] tm_v0 (some ()) := by
  obtain ⟨r, v', bs', w', ho, hr, hR'⟩ := hp (xs (i + 1)) v bs w hR
  refine tg_aload_n 1 C0 dL_law_2680 rfl rfl ?_
  refine tg_aload_n 0 C0 dL_law_2681 rfl rfl ?_
  refine tg_iload 5 C0 dL_law_2682 rfl ?_
  refine tg_iconst (x := nI 1) C0 dL_law_2684 (by decide) ?_
  refine tg_iadd C0 dL_law_2685 ?_
  rw [tl_add i 1]
  refine tl_sld C0 hX hbl hbA (tl_idx (by omega) hi.2) dL_law_2686 ?_
  rw [nI_clamp (show i + 1 < 2147483648 by omega)]
  refine tl_wi (suf := tm_w cy tm_shR ar 13 w ++ tlO o1 o2 cL cD xo xd) (As := [.int (xs (i + 1))]) (fs := [some 0, some 248, none, none, some 249, none, some 250, some 251, some 256]) 247 1 C0 hE hT rfl dL_law_2687 (c_X7_output l (xs (i + 1)) v bs) ho rfl rfl (by decide) rfl rfl (tm_gV tl_L_303 ti_X7_output ts_X7_output tn_X7 tc_X7_output) rfl rfl rfl rfl (by decide +kernel) ⟨Nat.le_of_ble_eq_true rfl, Nat.le_of_ble_eq_true rfl⟩ (Nat.le_of_ble_eq_true rfl) ⟨by show _ ≤ 601024; omega, by show _ ≤ 7293034; omega⟩ (fun κ b0 u hT C0 => ?_)
  have C0 : tmC p s m args meth c cL_law 10 rt RL TMW tm_NWC D cy tm_s0 tm_a0 0 (tlW cy ad ar o1 o2 cL cD κ b0 u v' w xo xd) A := C0
  refine tl_X (X' := tlW cy ad ar o1 o2 cL cD κ b0 u v' w xo xd) rfl ?_
  refine tg_aload_n 2 C0 dL_law_2690 rfl rfl ?_
  refine tg_aload_n 0 C0 dL_law_2691 rfl rfl ?_
  refine tg_iload 5 C0 dL_law_2692 rfl ?_
  refine tg_iconst (x := nI 1) C0 dL_law_2694 (by decide) ?_
  refine tg_iadd C0 dL_law_2695 ?_
  rw [tl_add i 1]
  refine tl_sld C0 hX hbl hbA (tl_idx (by omega) hi.2) dL_law_2696 ?_
  rw [nI_clamp (show i + 1 < 2147483648 by omega)]
  refine tl_mi (X' := tlW cy ad ar o1 o2 cL cD κ b0 u v' w' xo xd) (NW1 := tm_NWR) (pre := (tm_w cy tm_shC ad 256 v' ++ tmXB cy (ad 256) κ b0 u)) (suf := tlO o1 o2 cL cD xo xd) (sh := tm_shR) (n := 13) (ad := ar) (As := [.int (xs (i + 1))]) (fs := [none, some 1, some 2, none, some 3, some 4, some 5, none, none, none, none, none, some 6, none, some 7, some 8, none, none, none, none, none, none, none, some 9, none, some 10, some 11, some 12]) 0 1 C0 rfl rfl (fun _ _ _ h => by cases h) rfl dL_law_2697 (c_X8_output l (xs (i + 1)) _) hr rfl rfl (by decide) rfl rfl (tm_gV tl_L_306 ti_X8_output ts_X8_output tn_X8 tc_X8_output) rfl rfl rfl rfl (by decide +kernel) ⟨Nat.le_of_ble_eq_true rfl, Nat.le_of_ble_eq_true rfl⟩ (Nat.le_of_ble_eq_true rfl) ⟨by show _ ≤ 601024; omega, by show _ ≤ 7293034; omega⟩ (fun C0 => ?_)
  refine tg_eq (r := if r = r then some () else none) (by rw [if_pos rfl]) ?_
  refine tg_icmp_eq 2790 C0 dL_law_2700 (by decide) (fun _ => ?_) (fun q => absurd rfl q)
  exact tl_widen (by omega) (by omega) (cont _ _ _ _ _ _ _ _ C0 hT hR')
-- ----- case 47: undo
set_option maxRecDepth 100000 in
theorem law_case_47 {p : Program} {l : Launch} {e : Env} {s : State} {m : MethodId} {args : Array Value} {below : List Frame} {meth : Method} {c : Code} {A : Nat → Prop} {D : va_G} {cy : Nat → ClassId} {ad ar : Nat → Nat} {o1 o2 : Nat} {cL cD : ClassId} {adK adV adE : Nat → Nat} {tC : Nat} {Q : State → Prop} {rt : Option FieldType} {cells slots b i L : Nat} {xs : Nat → Int32} {Rel Rel2 : tmM → List Int32 → tmM → Prop} (hl : l.stackTraces = false) (hp : tP_undo Rel Rel2) (hX : va_X b L xs s s.heap) (hbl : b < s.heap.size) (hbA : ¬ A b) (hi : i + 5 ≤ L ∧ L ≤ 2560) (hE : tmSc adK adV adE tC A s s.heap) (hTh : tmTh A s s.heap) (hF : tlF D cy cL cD s) (hcs : cells + 64 ≤ 601024 ∧ slots + 8000 ≤ 7293034) {κ b0 : Nat} {u v w : tmM} {bs : List Int32} {xo : Int64} {xd : UInt64} (C0 : tmC p s m args meth c cL_law 10 rt RL TMW tm_NWC D cy tm_s0 tm_a0 0 (tlW cy ad ar o1 o2 cL cD κ b0 u v w xo xd) A) (hT : tmTx κ u bs) (hR : Rel v bs w) (cont : ∀ (κ b0 : Nat) (u v w : tmM) (bs : List Int32) (xo : Int64) (xd : UInt64), tmC p s m args meth c cL_law 10 rt RL TMW tm_NWC D cy tm_s0 tm_a0 0 (tlW cy ad ar o1 o2 cL cD κ b0 u v w xo xd) A → tmTx κ u bs → Rel2 v bs w → tmG p l e room_1 s m args below meth c (cells + 64) (slots + 8000) Q 10 D cy tm_s0 tm_a0 0 (tlW cy ad ar o1 o2 cL cD κ b0 u v w xo xd) A () 2790 [(0, .ref b), (1, .ref (ad 247)), (2, .ref (ar 0)), (3, .ref o1), (4, .ref o2), (5, .int (nI i))] [] tm_v0 (some ())) : tmG p l e room_1 s m args below meth c (cells) (slots) Q 10 D cy tm_s0 tm_a0 0 (tlW cy ad ar o1 o2 cL cD κ b0 u v w xo xd) A () 2705 [(0, .ref b), (1, .ref (ad 247)), (2, .ref (ar 0)), (3, .ref o1), (4, .ref o2), (5, .int (nI i))] [] tm_v0 (some ()) := by
  obtain ⟨r, v', w', ho, hr, hR'⟩ := hp v bs w hR
  refine tg_aload_n 1 C0 dL_law_2705 rfl rfl ?_
  refine tl_mi (X' := tlW cy ad ar o1 o2 cL cD κ b0 u v' w xo xd) (NW1 := tm_NWC) (pre := []) (suf := (tmXB cy (ad 256) κ b0 u ++ (tm_w cy tm_shR ar 13 w ++ tlO o1 o2 cL cD xo xd))) (sh := tm_shC) (n := 256) (ad := ad) (As := []) (fs := [some 0, some 248, none, none, some 249, none, some 250, some 251, some 256]) 247 0 C0 (List.append_assoc _ _ _) (List.append_assoc _ _ _) (fun _ h => h) tm_NWC_ok dL_law_2706 (c_X7_undo l _) ho rfl rfl (by decide) rfl rfl (tm_gV tl_L_307 ti_X7_undo ts_X7_undo tn_X7 tc_X7_undo) rfl rfl rfl rfl (by decide +kernel) ⟨Nat.le_of_ble_eq_true rfl, Nat.le_of_ble_eq_true rfl⟩ (Nat.le_of_ble_eq_true rfl) ⟨by show _ ≤ 601024; omega, by show _ ≤ 7293034; omega⟩ (fun C0 => ?_)
  refine tg_aload_n 2 C0 dL_law_2709 rfl rfl ?_
  refine tl_mi (X' := tlW cy ad ar o1 o2 cL cD κ b0 u v' w' xo xd) (NW1 := tm_NWR) (pre := (tm_w cy tm_shC ad 256 v' ++ tmXB cy (ad 256) κ b0 u)) (suf := tlO o1 o2 cL cD xo xd) (sh := tm_shR) (n := 13) (ad := ar) (As := []) (fs := [none, some 1, some 2, none, some 3, some 4, some 5, none, none, none, none, none, some 6, none, some 7, some 8, none, none, none, none, none, none, none, some 9, none, some 10, some 11, some 12]) 0 0 C0 rfl rfl (fun _ _ _ h => by cases h) rfl dL_law_2710 (c_X8_undo l _) hr rfl rfl (by decide) rfl rfl (tm_gV tl_L_310 ti_X8_undo ts_X8_undo tn_X8 tc_X8_undo) rfl rfl rfl rfl (by decide +kernel) ⟨Nat.le_of_ble_eq_true rfl, Nat.le_of_ble_eq_true rfl⟩ (Nat.le_of_ble_eq_true rfl) ⟨by show _ ≤ 601024; omega, by show _ ≤ 7293034; omega⟩ (fun C0 => ?_)
  refine tg_eq (r := if r = r then some () else none) (by rw [if_pos rfl]) ?_
  refine tg_icmp_eq 2790 C0 dL_law_2713 (by decide) (fun _ => ?_) (fun q => absurd rfl q)
  exact tl_widen (by omega) (by omega) (cont _ _ _ _ _ _ _ _ C0 hT hR')
-- ----- case 48: save
set_option maxRecDepth 100000 in
theorem law_case_48 {p : Program} {l : Launch} {e : Env} {s : State} {m : MethodId} {args : Array Value} {below : List Frame} {meth : Method} {c : Code} {A : Nat → Prop} {D : va_G} {cy : Nat → ClassId} {ad ar : Nat → Nat} {o1 o2 : Nat} {cL cD : ClassId} {adK adV adE : Nat → Nat} {tC : Nat} {Q : State → Prop} {rt : Option FieldType} {cells slots b i L : Nat} {xs : Nat → Int32} {Rel Rel2 : tmM → List Int32 → tmM → Prop} (hl : l.stackTraces = false) (hp : tP_save Rel Rel2) (hX : va_X b L xs s s.heap) (hbl : b < s.heap.size) (hbA : ¬ A b) (hi : i + 5 ≤ L ∧ L ≤ 2560) (hE : tmSc adK adV adE tC A s s.heap) (hTh : tmTh A s s.heap) (hF : tlF D cy cL cD s) (hcs : cells + 64 ≤ 601024 ∧ slots + 8000 ≤ 7293034) {κ b0 : Nat} {u v w : tmM} {bs : List Int32} {xo : Int64} {xd : UInt64} (C0 : tmC p s m args meth c cL_law 10 rt RL TMW tm_NWC D cy tm_s0 tm_a0 0 (tlW cy ad ar o1 o2 cL cD κ b0 u v w xo xd) A) (hT : tmTx κ u bs) (hR : Rel v bs w) (cont : ∀ (κ b0 : Nat) (u v w : tmM) (bs : List Int32) (xo : Int64) (xd : UInt64), tmC p s m args meth c cL_law 10 rt RL TMW tm_NWC D cy tm_s0 tm_a0 0 (tlW cy ad ar o1 o2 cL cD κ b0 u v w xo xd) A → tmTx κ u bs → Rel2 v bs w → tmG p l e room_1 s m args below meth c (cells + 64) (slots + 8000) Q 10 D cy tm_s0 tm_a0 0 (tlW cy ad ar o1 o2 cL cD κ b0 u v w xo xd) A () 2790 [(0, .ref b), (1, .ref (ad 247)), (2, .ref (ar 0)), (3, .ref o1), (4, .ref o2), (5, .int (nI i))] [] tm_v0 (some ())) : tmG p l e room_1 s m args below meth c (cells) (slots) Q 10 D cy tm_s0 tm_a0 0 (tlW cy ad ar o1 o2 cL cD κ b0 u v w xo xd) A () 2718 [(0, .ref b), (1, .ref (ad 247)), (2, .ref (ar 0)), (3, .ref o1), (4, .ref o2), (5, .int (nI i))] [] tm_v0 (some ()) := by
  obtain ⟨k, xo', xd', v', bs', w1, w2, ho, hr, ht, hR'⟩ := hp (xs (i + 1)) v bs w xo xd hR
  refine tg_aload_n 1 C0 dL_law_2718 rfl rfl ?_
  refine tg_aload_n 0 C0 dL_law_2719 rfl rfl ?_
  refine tg_iload 5 C0 dL_law_2720 rfl ?_
  refine tg_iconst (x := nI 1) C0 dL_law_2722 (by decide) ?_
  refine tg_iadd C0 dL_law_2723 ?_
  rw [tl_add i 1]
  refine tl_sld C0 hX hbl hbA (tl_idx (by omega) hi.2) dL_law_2724 ?_
  rw [nI_clamp (show i + 1 < 2147483648 by omega)]
  refine tl_callS (st := []) (st0 := _) (xo' := xo') (xd' := xd') (v' := v') (bs' := bs') 2 C0 hE hTh hF hT dL_law_2725 (cL_c_save l hl (xs (i + 1)) v bs) ho rfl (tl_gS2 tl_L_311 tst_L_save tn_L tc_L_save) rfl rfl rfl rfl (by decide +kernel) ⟨Nat.le_of_ble_eq_true rfl, Nat.le_of_ble_eq_true rfl⟩ (Nat.le_of_ble_eq_true rfl) ⟨by show _ ≤ 601024; omega, by show _ ≤ 7293034; omega⟩ (fun κ b0 u hT C0 => ?_)
  refine tg_istore [(6, .int k), (0, .ref b), (1, .ref (ad 247)), (2, .ref (ar 0)), (3, .ref o1), (4, .ref o2), (5, .int (nI i))] C0 dL_law_2728 (by decide) rfl ?_
  refine tg_aload_n 3 C0 dL_law_2730 rfl rfl ?_
  refine tg_aload_n 1 C0 dL_law_2731 rfl rfl ?_
  refine tg_iload 6 C0 dL_law_2732 rfl ?_
  refine tg_iconst (x := nI 1) C0 dL_law_2734 (by decide) ?_
  refine tg_iadd C0 dL_law_2735 ?_
  rw [tl_add i 1]
  refine tl_sld C0 hX hbl hbA (tl_idx (by omega) hi.2) dL_law_2736 ?_
  rw [nI_clamp (show i + 1 < 2147483648 by omega)]
  refine tl_mv (X' := tlW cy ad ar o1 o2 cL cD κ b0 u v' w1 xo' xd') (NW1 := tm_NWR) (pre := (tm_w cy tm_shC ad 256 v' ++ tmXB cy (ad 256) κ b0 u)) (suf := tlO o1 o2 cL cD xo' xd') (sh := tm_shR) (n := 13) (ad := ar) (As := [.int (xs (i + 1))]) (fs := [none, some 1, some 2, none, some 3, some 4, some 5, none, none, none, none, none, some 6, none, some 7, some 8, none, none, none, none, none, none, none, some 9, none, some 10, some 11, some 12]) 0 1 C0 rfl rfl (fun _ _ _ h => by cases h) rfl dL_law_2737 (c_X8_save l (xs (i + 1)) _) hr rfl rfl (by decide) rfl rfl (tm_gV tl_L_314 ti_X8_save ts_X8_save tn_X8 tc_X8_save) rfl rfl rfl rfl (by decide +kernel) ⟨Nat.le_of_ble_eq_true rfl, Nat.le_of_ble_eq_true rfl⟩ (Nat.le_of_ble_eq_true rfl) ⟨by show _ ≤ 601024; omega, by show _ ≤ 7293034; omega⟩ (fun C0 => ?_)
  refine tg_aload_n 3 C0 dL_law_2740 rfl rfl ?_
  refine tl_mi (X' := tlW cy ad ar o1 o2 cL cD κ b0 u v' w2 xo' xd') (NW1 := tm_NWR) (pre := (tm_w cy tm_shC ad 256 v' ++ tmXB cy (ad 256) κ b0 u)) (suf := tlO o1 o2 cL cD xo' xd') (sh := tm_shR) (n := 13) (ad := ar) (As := []) (fs := [none, some 1, some 2, none, some 3, some 4, some 5, none, none, none, none, none, some 6, none, some 7, some 8, none, none, none, none, none, none, none, some 9, none, some 10, some 11, some 12]) 0 0 C0 rfl rfl (fun _ _ _ h => by cases h) rfl dL_law_2741 (c_X8_thrown l _) ht rfl rfl (by decide) rfl rfl (tm_gV tl_L_145 ti_X8_thrown ts_X8_thrown tn_X8 tc_X8_thrown) rfl rfl rfl rfl (by decide +kernel) ⟨Nat.le_of_ble_eq_true rfl, Nat.le_of_ble_eq_true rfl⟩ (Nat.le_of_ble_eq_true rfl) ⟨by show _ ≤ 601024; omega, by show _ ≤ 7293034; omega⟩ (fun C0 => ?_)
  refine tg_iload 0 C0 dL_law_2744 rfl ?_
  refine tg_eq (r := if k = k then some () else none) (by rw [if_pos rfl]) ?_
  refine tg_icmp_eq 2751 C0 dL_law_2746 (by decide) (fun _ => ?_) (fun q => absurd rfl q)
  refine tg_goto 2790 C0 dL_law_2751 (by decide) ?_
  refine tg_sub (lv' := [(0, .ref b), (1, .ref (ad 247)), (2, .ref (ar 0)), (3, .ref o1), (4, .ref o2), (5, .int (nI i))]) [1, 2, 3, 4, 5, 6] rfl ?_
  exact tl_widen (by omega) (by omega) (cont _ _ _ _ _ _ _ _ C0 hT hR')
-- ----- case 49: restore
set_option maxRecDepth 100000 in
theorem law_case_49 {p : Program} {l : Launch} {e : Env} {s : State} {m : MethodId} {args : Array Value} {below : List Frame} {meth : Method} {c : Code} {A : Nat → Prop} {D : va_G} {cy : Nat → ClassId} {ad ar : Nat → Nat} {o1 o2 : Nat} {cL cD : ClassId} {adK adV adE : Nat → Nat} {tC : Nat} {Q : State → Prop} {rt : Option FieldType} {cells slots b i L : Nat} {xs : Nat → Int32} {Rel Rel2 : tmM → List Int32 → tmM → Prop} (hl : l.stackTraces = false) (hp : tP_restore Rel Rel2) (hX : va_X b L xs s s.heap) (hbl : b < s.heap.size) (hbA : ¬ A b) (hi : i + 5 ≤ L ∧ L ≤ 2560) (hE : tmSc adK adV adE tC A s s.heap) (hTh : tmTh A s s.heap) (hF : tlF D cy cL cD s) (hcs : cells + 64 ≤ 601024 ∧ slots + 8000 ≤ 7293034) {κ b0 : Nat} {u v w : tmM} {bs : List Int32} {xo : Int64} {xd : UInt64} (C0 : tmC p s m args meth c cL_law 10 rt RL TMW tm_NWC D cy tm_s0 tm_a0 0 (tlW cy ad ar o1 o2 cL cD κ b0 u v w xo xd) A) (hT : tmTx κ u bs) (hR : Rel v bs w) (cont : ∀ (κ b0 : Nat) (u v w : tmM) (bs : List Int32) (xo : Int64) (xd : UInt64), tmC p s m args meth c cL_law 10 rt RL TMW tm_NWC D cy tm_s0 tm_a0 0 (tlW cy ad ar o1 o2 cL cD κ b0 u v w xo xd) A → tmTx κ u bs → Rel2 v bs w → tmG p l e room_1 s m args below meth c (cells + 64) (slots + 8000) Q 10 D cy tm_s0 tm_a0 0 (tlW cy ad ar o1 o2 cL cD κ b0 u v w xo xd) A () 2790 [(0, .ref b), (1, .ref (ad 247)), (2, .ref (ar 0)), (3, .ref o1), (4, .ref o2), (5, .int (nI i))] [] tm_v0 (some ())) : tmG p l e room_1 s m args below meth c (cells) (slots) Q 10 D cy tm_s0 tm_a0 0 (tlW cy ad ar o1 o2 cL cD κ b0 u v w xo xd) A () 2754 [(0, .ref b), (1, .ref (ad 247)), (2, .ref (ar 0)), (3, .ref o1), (4, .ref o2), (5, .int (nI i))] [] tm_v0 (some ()) := by
  obtain ⟨k, xo', xd', v', bs', w1, w2, ho, hr, ht, hR'⟩ := hp (xs (i + 1)) v bs w xo xd hR
  refine tg_aload_n 1 C0 dL_law_2754 rfl rfl ?_
  refine tg_aload_n 0 C0 dL_law_2755 rfl rfl ?_
  refine tg_iload 5 C0 dL_law_2756 rfl ?_
  refine tg_iconst (x := nI 1) C0 dL_law_2758 (by decide) ?_
  refine tg_iadd C0 dL_law_2759 ?_
  rw [tl_add i 1]
  refine tl_sld C0 hX hbl hbA (tl_idx (by omega) hi.2) dL_law_2760 ?_
  rw [nI_clamp (show i + 1 < 2147483648 by omega)]
  refine tl_callS (st := []) (st0 := _) (xo' := xo') (xd' := xd') (v' := v') (bs' := bs') 2 C0 hE hTh hF hT dL_law_2761 (cL_c_restore l hl (xs (i + 1)) v bs) ho rfl (tl_gS2 tl_L_315 tst_L_restore tn_L tc_L_restore) rfl rfl rfl rfl (by decide +kernel) ⟨Nat.le_of_ble_eq_true rfl, Nat.le_of_ble_eq_true rfl⟩ (Nat.le_of_ble_eq_true rfl) ⟨by show _ ≤ 601024; omega, by show _ ≤ 7293034; omega⟩ (fun κ b0 u hT C0 => ?_)
  refine tg_istore [(6, .int k), (0, .ref b), (1, .ref (ad 247)), (2, .ref (ar 0)), (3, .ref o1), (4, .ref o2), (5, .int (nI i))] C0 dL_law_2764 (by decide) rfl ?_
  refine tg_aload_n 3 C0 dL_law_2766 rfl rfl ?_
  refine tg_aload_n 1 C0 dL_law_2767 rfl rfl ?_
  refine tg_iload 6 C0 dL_law_2768 rfl ?_
  refine tg_iconst (x := nI 1) C0 dL_law_2770 (by decide) ?_
  refine tg_iadd C0 dL_law_2771 ?_
  rw [tl_add i 1]
  refine tl_sld C0 hX hbl hbA (tl_idx (by omega) hi.2) dL_law_2772 ?_
  rw [nI_clamp (show i + 1 < 2147483648 by omega)]
  refine tl_mv (X' := tlW cy ad ar o1 o2 cL cD κ b0 u v' w1 xo' xd') (NW1 := tm_NWR) (pre := (tm_w cy tm_shC ad 256 v' ++ tmXB cy (ad 256) κ b0 u)) (suf := tlO o1 o2 cL cD xo' xd') (sh := tm_shR) (n := 13) (ad := ar) (As := [.int (xs (i + 1))]) (fs := [none, some 1, some 2, none, some 3, some 4, some 5, none, none, none, none, none, some 6, none, some 7, some 8, none, none, none, none, none, none, none, some 9, none, some 10, some 11, some 12]) 0 1 C0 rfl rfl (fun _ _ _ h => by cases h) rfl dL_law_2773 (c_X8_restore l (xs (i + 1)) _) hr rfl rfl (by decide) rfl rfl (tm_gV tl_L_317 ti_X8_restore ts_X8_restore tn_X8 tc_X8_restore) rfl rfl rfl rfl (by decide +kernel) ⟨Nat.le_of_ble_eq_true rfl, Nat.le_of_ble_eq_true rfl⟩ (Nat.le_of_ble_eq_true rfl) ⟨by show _ ≤ 601024; omega, by show _ ≤ 7293034; omega⟩ (fun C0 => ?_)
  refine tg_aload_n 3 C0 dL_law_2776 rfl rfl ?_
  refine tl_mi (X' := tlW cy ad ar o1 o2 cL cD κ b0 u v' w2 xo' xd') (NW1 := tm_NWR) (pre := (tm_w cy tm_shC ad 256 v' ++ tmXB cy (ad 256) κ b0 u)) (suf := tlO o1 o2 cL cD xo' xd') (sh := tm_shR) (n := 13) (ad := ar) (As := []) (fs := [none, some 1, some 2, none, some 3, some 4, some 5, none, none, none, none, none, some 6, none, some 7, some 8, none, none, none, none, none, none, none, some 9, none, some 10, some 11, some 12]) 0 0 C0 rfl rfl (fun _ _ _ h => by cases h) rfl dL_law_2777 (c_X8_thrown l _) ht rfl rfl (by decide) rfl rfl (tm_gV tl_L_145 ti_X8_thrown ts_X8_thrown tn_X8 tc_X8_thrown) rfl rfl rfl rfl (by decide +kernel) ⟨Nat.le_of_ble_eq_true rfl, Nat.le_of_ble_eq_true rfl⟩ (Nat.le_of_ble_eq_true rfl) ⟨by show _ ≤ 601024; omega, by show _ ≤ 7293034; omega⟩ (fun C0 => ?_)
  refine tg_iload 0 C0 dL_law_2780 rfl ?_
  refine tg_eq (r := if k = k then some () else none) (by rw [if_pos rfl]) ?_
  refine tg_icmp_eq 2787 C0 dL_law_2782 (by decide) (fun _ => ?_) (fun q => absurd rfl q)
  refine tg_goto 2790 C0 dL_law_2787 (by decide) ?_
  refine tg_sub (lv' := [(0, .ref b), (1, .ref (ad 247)), (2, .ref (ar 0)), (3, .ref o1), (4, .ref o2), (5, .int (nI i))]) [1, 2, 3, 4, 5, 6] rfl ?_
  exact tl_widen (by omega) (by omega) (cont _ _ _ _ _ _ _ _ C0 hT hR')
