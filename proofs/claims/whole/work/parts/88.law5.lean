theorem dL_law_2614 : decode cL_law 2614 = .ok (.aload_n 1, 1) := by decide +kernel
theorem dL_law_2615 : decode cL_law 2615 = .ok (.aload_n 0, 1) := by decide +kernel
theorem dL_law_2616 : decode cL_law 2616 = .ok (.iload 4, 2) := by decide +kernel
theorem dL_law_2618 : decode cL_law 2618 = .ok (.iconst 1, 1) := by decide +kernel
theorem dL_law_2619 : decode cL_law 2619 = .ok (.iadd, 1) := by decide +kernel
theorem dL_law_2620 : decode cL_law 2620 = .ok (.iaload, 1) := by decide +kernel
theorem dL_law_2621 : decode cL_law 2621 = .ok (.aload_n 0, 1) := by decide +kernel
theorem dL_law_2622 : decode cL_law 2622 = .ok (.iload 4, 2) := by decide +kernel
theorem dL_law_2624 : decode cL_law 2624 = .ok (.iconst 2, 1) := by decide +kernel
theorem dL_law_2625 : decode cL_law 2625 = .ok (.iadd, 1) := by decide +kernel
theorem dL_law_2626 : decode cL_law 2626 = .ok (.iaload, 1) := by decide +kernel
theorem dL_law_2627 : decode cL_law 2627 = .ok (.ifCond .eq 7, 3) := by decide +kernel
theorem dL_law_2630 : decode cL_law 2630 = .ok (.iconst 1, 1) := by decide +kernel
theorem dL_law_2631 : decode cL_law 2631 = .ok (.goto 4, 3) := by decide +kernel
theorem dL_law_2634 : decode cL_law 2634 = .ok (.iconst 0, 1) := by decide +kernel
theorem dL_law_2635 : decode cL_law 2635 = .ok (.aload_n 3, 1) := by decide +kernel
theorem dL_law_2636 : decode cL_law 2636 = .ok (.invokestatic 320, 3) := by decide +kernel
theorem dL_law_2639 : decode cL_law 2639 = .ok (.istore 5, 2) := by decide +kernel
theorem dL_law_2641 : decode cL_law 2641 = .ok (.aload_n 2, 1) := by decide +kernel
theorem dL_law_2642 : decode cL_law 2642 = .ok (.aload_n 0, 1) := by decide +kernel
theorem dL_law_2643 : decode cL_law 2643 = .ok (.iload 4, 2) := by decide +kernel
theorem dL_law_2645 : decode cL_law 2645 = .ok (.iconst 1, 1) := by decide +kernel
theorem dL_law_2646 : decode cL_law 2646 = .ok (.iadd, 1) := by decide +kernel
theorem dL_law_2647 : decode cL_law 2647 = .ok (.iaload, 1) := by decide +kernel
theorem dL_law_2648 : decode cL_law 2648 = .ok (.aload_n 0, 1) := by decide +kernel
theorem dL_law_2649 : decode cL_law 2649 = .ok (.iload 4, 2) := by decide +kernel
theorem dL_law_2651 : decode cL_law 2651 = .ok (.iconst 2, 1) := by decide +kernel
theorem dL_law_2652 : decode cL_law 2652 = .ok (.iadd, 1) := by decide +kernel
theorem dL_law_2653 : decode cL_law 2653 = .ok (.iaload, 1) := by decide +kernel
theorem dL_law_2654 : decode cL_law 2654 = .ok (.ifCond .eq 7, 3) := by decide +kernel
theorem dL_law_2657 : decode cL_law 2657 = .ok (.iconst 1, 1) := by decide +kernel
theorem dL_law_2658 : decode cL_law 2658 = .ok (.goto 4, 3) := by decide +kernel
theorem dL_law_2661 : decode cL_law 2661 = .ok (.iconst 0, 1) := by decide +kernel
theorem dL_law_2662 : decode cL_law 2662 = .ok (.invokevirtual 322, 3) := by decide +kernel
theorem dL_law_2665 : decode cL_law 2665 = .ok (.istore 6, 2) := by decide +kernel
theorem dL_law_2667 : decode cL_law 2667 = .ok (.aload_n 2, 1) := by decide +kernel
theorem dL_law_2668 : decode cL_law 2668 = .ok (.invokevirtual 204, 3) := by decide +kernel
theorem dL_law_2671 : decode cL_law 2671 = .ok (.iload 5, 2) := by decide +kernel
theorem dL_law_2673 : decode cL_law 2673 = .ok (.if_icmp .eq 5, 3) := by decide +kernel
theorem dL_law_2676 : decode cL_law 2676 = .ok (.iconst 0, 1) := by decide +kernel
theorem dL_law_2677 : decode cL_law 2677 = .ok (.ireturn, 1) := by decide +kernel
theorem dL_law_2678 : decode cL_law 2678 = .ok (.iload 5, 2) := by decide +kernel
theorem dL_law_2680 : decode cL_law 2680 = .ok (.ifCond .ne 15, 3) := by decide +kernel
theorem dL_law_2683 : decode cL_law 2683 = .ok (.aload_n 3, 1) := by decide +kernel
theorem dL_law_2684 : decode cL_law 2684 = .ok (.iconst 0, 1) := by decide +kernel
theorem dL_law_2685 : decode cL_law 2685 = .ok (.laload, 1) := by decide +kernel
theorem dL_law_2686 : decode cL_law 2686 = .ok (.iload 6, 2) := by decide +kernel
theorem dL_law_2688 : decode cL_law 2688 = .ok (.i2l, 1) := by decide +kernel
theorem dL_law_2689 : decode cL_law 2689 = .ok (.lcmp, 1) := by decide +kernel
theorem dL_law_2690 : decode cL_law 2690 = .ok (.ifCond .eq 5, 3) := by decide +kernel
theorem dL_law_2693 : decode cL_law 2693 = .ok (.iconst 0, 1) := by decide +kernel
theorem dL_law_2694 : decode cL_law 2694 = .ok (.ireturn, 1) := by decide +kernel
theorem dL_law_2695 : decode cL_law 2695 = .ok (.goto 1343, 3) := by decide +kernel
theorem dL_law_2698 : decode cL_law 2698 = .ok (.aload_n 1, 1) := by decide +kernel
theorem dL_law_2699 : decode cL_law 2699 = .ok (.aload_n 0, 1) := by decide +kernel
theorem dL_law_2700 : decode cL_law 2700 = .ok (.iload 4, 2) := by decide +kernel
theorem dL_law_2702 : decode cL_law 2702 = .ok (.iconst 1, 1) := by decide +kernel
theorem dL_law_2703 : decode cL_law 2703 = .ok (.iadd, 1) := by decide +kernel
theorem dL_law_2704 : decode cL_law 2704 = .ok (.iaload, 1) := by decide +kernel
theorem dL_law_2705 : decode cL_law 2705 = .ok (.aload_n 0, 1) := by decide +kernel
theorem dL_law_2706 : decode cL_law 2706 = .ok (.iload 4, 2) := by decide +kernel
theorem dL_law_2708 : decode cL_law 2708 = .ok (.iconst 2, 1) := by decide +kernel
theorem dL_law_2709 : decode cL_law 2709 = .ok (.iadd, 1) := by decide +kernel
theorem dL_law_2710 : decode cL_law 2710 = .ok (.iaload, 1) := by decide +kernel
theorem dL_law_2711 : decode cL_law 2711 = .ok (.aload_n 3, 1) := by decide +kernel
theorem dL_law_2712 : decode cL_law 2712 = .ok (.invokestatic 323, 3) := by decide +kernel
theorem dL_law_2715 : decode cL_law 2715 = .ok (.istore 5, 2) := by decide +kernel
theorem dL_law_2717 : decode cL_law 2717 = .ok (.aload_n 2, 1) := by decide +kernel
theorem dL_law_2718 : decode cL_law 2718 = .ok (.aload_n 0, 1) := by decide +kernel
theorem dL_law_2719 : decode cL_law 2719 = .ok (.iload 4, 2) := by decide +kernel
theorem dL_law_2721 : decode cL_law 2721 = .ok (.iconst 1, 1) := by decide +kernel
theorem dL_law_2722 : decode cL_law 2722 = .ok (.iadd, 1) := by decide +kernel
theorem dL_law_2723 : decode cL_law 2723 = .ok (.iaload, 1) := by decide +kernel
theorem dL_law_2724 : decode cL_law 2724 = .ok (.aload_n 0, 1) := by decide +kernel
theorem dL_law_2725 : decode cL_law 2725 = .ok (.iload 4, 2) := by decide +kernel
theorem dL_law_2727 : decode cL_law 2727 = .ok (.iconst 2, 1) := by decide +kernel
theorem dL_law_2728 : decode cL_law 2728 = .ok (.iadd, 1) := by decide +kernel
theorem dL_law_2729 : decode cL_law 2729 = .ok (.iaload, 1) := by decide +kernel
theorem dL_law_2730 : decode cL_law 2730 = .ok (.invokevirtual 325, 3) := by decide +kernel
theorem dL_law_2733 : decode cL_law 2733 = .ok (.istore 6, 2) := by decide +kernel
theorem dL_law_2735 : decode cL_law 2735 = .ok (.aload_n 2, 1) := by decide +kernel
theorem dL_law_2736 : decode cL_law 2736 = .ok (.invokevirtual 204, 3) := by decide +kernel
theorem dL_law_2739 : decode cL_law 2739 = .ok (.iload 5, 2) := by decide +kernel
theorem dL_law_2741 : decode cL_law 2741 = .ok (.if_icmp .eq 5, 3) := by decide +kernel
theorem dL_law_2744 : decode cL_law 2744 = .ok (.iconst 0, 1) := by decide +kernel
theorem dL_law_2745 : decode cL_law 2745 = .ok (.ireturn, 1) := by decide +kernel
theorem dL_law_2746 : decode cL_law 2746 = .ok (.iload 5, 2) := by decide +kernel
theorem dL_law_2748 : decode cL_law 2748 = .ok (.ifCond .ne 15, 3) := by decide +kernel
theorem dL_law_2751 : decode cL_law 2751 = .ok (.aload_n 3, 1) := by decide +kernel
theorem dL_law_2752 : decode cL_law 2752 = .ok (.iconst 0, 1) := by decide +kernel
theorem dL_law_2753 : decode cL_law 2753 = .ok (.laload, 1) := by decide +kernel
theorem dL_law_2754 : decode cL_law 2754 = .ok (.iload 6, 2) := by decide +kernel
theorem dL_law_2756 : decode cL_law 2756 = .ok (.i2l, 1) := by decide +kernel
theorem dL_law_2757 : decode cL_law 2757 = .ok (.lcmp, 1) := by decide +kernel
theorem dL_law_2758 : decode cL_law 2758 = .ok (.ifCond .eq 5, 3) := by decide +kernel
theorem dL_law_2761 : decode cL_law 2761 = .ok (.iconst 0, 1) := by decide +kernel
theorem dL_law_2762 : decode cL_law 2762 = .ok (.ireturn, 1) := by decide +kernel
theorem dL_law_2763 : decode cL_law 2763 = .ok (.goto 1275, 3) := by decide +kernel
theorem dL_law_2766 : decode cL_law 2766 = .ok (.aload_n 1, 1) := by decide +kernel
theorem dL_law_2767 : decode cL_law 2767 = .ok (.aload_n 0, 1) := by decide +kernel
theorem dL_law_2768 : decode cL_law 2768 = .ok (.iload 4, 2) := by decide +kernel
theorem dL_law_2770 : decode cL_law 2770 = .ok (.iconst 1, 1) := by decide +kernel
theorem dL_law_2771 : decode cL_law 2771 = .ok (.iadd, 1) := by decide +kernel
theorem dL_law_2772 : decode cL_law 2772 = .ok (.iaload, 1) := by decide +kernel
theorem dL_law_2773 : decode cL_law 2773 = .ok (.aload_n 0, 1) := by decide +kernel
theorem dL_law_2774 : decode cL_law 2774 = .ok (.iload 4, 2) := by decide +kernel
theorem dL_law_2776 : decode cL_law 2776 = .ok (.iconst 2, 1) := by decide +kernel
theorem dL_law_2777 : decode cL_law 2777 = .ok (.iadd, 1) := by decide +kernel
theorem dL_law_2778 : decode cL_law 2778 = .ok (.iaload, 1) := by decide +kernel
theorem dL_law_2779 : decode cL_law 2779 = .ok (.aload_n 3, 1) := by decide +kernel
theorem dL_law_2780 : decode cL_law 2780 = .ok (.invokestatic 326, 3) := by decide +kernel
theorem dL_law_2783 : decode cL_law 2783 = .ok (.istore 5, 2) := by decide +kernel
theorem dL_law_2785 : decode cL_law 2785 = .ok (.aload_n 2, 1) := by decide +kernel
theorem dL_law_2786 : decode cL_law 2786 = .ok (.aload_n 0, 1) := by decide +kernel
theorem dL_law_2787 : decode cL_law 2787 = .ok (.iload 4, 2) := by decide +kernel
theorem dL_law_2789 : decode cL_law 2789 = .ok (.iconst 1, 1) := by decide +kernel
theorem dL_law_2790 : decode cL_law 2790 = .ok (.iadd, 1) := by decide +kernel
theorem dL_law_2791 : decode cL_law 2791 = .ok (.iaload, 1) := by decide +kernel
theorem dL_law_2792 : decode cL_law 2792 = .ok (.aload_n 0, 1) := by decide +kernel
theorem dL_law_2793 : decode cL_law 2793 = .ok (.iload 4, 2) := by decide +kernel
theorem dL_law_2795 : decode cL_law 2795 = .ok (.iconst 2, 1) := by decide +kernel
theorem dL_law_2796 : decode cL_law 2796 = .ok (.iadd, 1) := by decide +kernel
theorem dL_law_2797 : decode cL_law 2797 = .ok (.iaload, 1) := by decide +kernel
theorem dL_law_2798 : decode cL_law 2798 = .ok (.invokevirtual 328, 3) := by decide +kernel
theorem dL_law_2801 : decode cL_law 2801 = .ok (.istore 6, 2) := by decide +kernel
theorem dL_law_2803 : decode cL_law 2803 = .ok (.aload_n 2, 1) := by decide +kernel
theorem dL_law_2804 : decode cL_law 2804 = .ok (.invokevirtual 204, 3) := by decide +kernel
theorem dL_law_2807 : decode cL_law 2807 = .ok (.iload 5, 2) := by decide +kernel
theorem dL_law_2809 : decode cL_law 2809 = .ok (.if_icmp .eq 5, 3) := by decide +kernel
theorem dL_law_2812 : decode cL_law 2812 = .ok (.iconst 0, 1) := by decide +kernel
theorem dL_law_2813 : decode cL_law 2813 = .ok (.ireturn, 1) := by decide +kernel
theorem dL_law_2814 : decode cL_law 2814 = .ok (.iload 5, 2) := by decide +kernel
theorem dL_law_2816 : decode cL_law 2816 = .ok (.ifCond .ne 15, 3) := by decide +kernel
theorem dL_law_2819 : decode cL_law 2819 = .ok (.aload_n 3, 1) := by decide +kernel
theorem dL_law_2820 : decode cL_law 2820 = .ok (.iconst 0, 1) := by decide +kernel
theorem dL_law_2821 : decode cL_law 2821 = .ok (.laload, 1) := by decide +kernel
theorem dL_law_2822 : decode cL_law 2822 = .ok (.iload 6, 2) := by decide +kernel
theorem dL_law_2824 : decode cL_law 2824 = .ok (.i2l, 1) := by decide +kernel
theorem dL_law_2825 : decode cL_law 2825 = .ok (.lcmp, 1) := by decide +kernel
theorem dL_law_2826 : decode cL_law 2826 = .ok (.ifCond .eq 5, 3) := by decide +kernel
theorem dL_law_2829 : decode cL_law 2829 = .ok (.iconst 0, 1) := by decide +kernel
theorem dL_law_2830 : decode cL_law 2830 = .ok (.ireturn, 1) := by decide +kernel
theorem dL_law_2831 : decode cL_law 2831 = .ok (.goto 1207, 3) := by decide +kernel
theorem dL_law_2834 : decode cL_law 2834 = .ok (.aload_n 1, 1) := by decide +kernel
theorem dL_law_2835 : decode cL_law 2835 = .ok (.aload_n 0, 1) := by decide +kernel
theorem dL_law_2836 : decode cL_law 2836 = .ok (.iload 4, 2) := by decide +kernel
theorem dL_law_2838 : decode cL_law 2838 = .ok (.iconst 1, 1) := by decide +kernel
theorem dL_law_2839 : decode cL_law 2839 = .ok (.iadd, 1) := by decide +kernel
theorem dL_law_2840 : decode cL_law 2840 = .ok (.iaload, 1) := by decide +kernel
theorem dL_law_2841 : decode cL_law 2841 = .ok (.aload_n 3, 1) := by decide +kernel
theorem dL_law_2842 : decode cL_law 2842 = .ok (.invokestatic 329, 3) := by decide +kernel
theorem dL_law_2845 : decode cL_law 2845 = .ok (.istore 5, 2) := by decide +kernel
theorem dL_law_2847 : decode cL_law 2847 = .ok (.aload_n 2, 1) := by decide +kernel
theorem dL_law_2848 : decode cL_law 2848 = .ok (.aload_n 0, 1) := by decide +kernel
theorem dL_law_2849 : decode cL_law 2849 = .ok (.iload 4, 2) := by decide +kernel
theorem dL_law_2851 : decode cL_law 2851 = .ok (.iconst 1, 1) := by decide +kernel
theorem dL_law_2852 : decode cL_law 2852 = .ok (.iadd, 1) := by decide +kernel
theorem dL_law_2853 : decode cL_law 2853 = .ok (.iaload, 1) := by decide +kernel
theorem dL_law_2854 : decode cL_law 2854 = .ok (.invokevirtual 331, 3) := by decide +kernel
theorem dL_law_2857 : decode cL_law 2857 = .ok (.istore 6, 2) := by decide +kernel
theorem dL_law_2859 : decode cL_law 2859 = .ok (.aload_n 2, 1) := by decide +kernel
theorem dL_law_2860 : decode cL_law 2860 = .ok (.invokevirtual 204, 3) := by decide +kernel
theorem dL_law_2863 : decode cL_law 2863 = .ok (.iload 5, 2) := by decide +kernel
theorem dL_law_2865 : decode cL_law 2865 = .ok (.if_icmp .eq 5, 3) := by decide +kernel
theorem dL_law_2868 : decode cL_law 2868 = .ok (.iconst 0, 1) := by decide +kernel
theorem dL_law_2869 : decode cL_law 2869 = .ok (.ireturn, 1) := by decide +kernel
theorem dL_law_2870 : decode cL_law 2870 = .ok (.iload 5, 2) := by decide +kernel
theorem dL_law_2872 : decode cL_law 2872 = .ok (.ifCond .ne 15, 3) := by decide +kernel
theorem dL_law_2875 : decode cL_law 2875 = .ok (.aload_n 3, 1) := by decide +kernel
theorem dL_law_2876 : decode cL_law 2876 = .ok (.iconst 0, 1) := by decide +kernel
theorem dL_law_2877 : decode cL_law 2877 = .ok (.laload, 1) := by decide +kernel
theorem dL_law_2878 : decode cL_law 2878 = .ok (.iload 6, 2) := by decide +kernel
theorem dL_law_2880 : decode cL_law 2880 = .ok (.i2l, 1) := by decide +kernel
theorem dL_law_2881 : decode cL_law 2881 = .ok (.lcmp, 1) := by decide +kernel
theorem dL_law_2882 : decode cL_law 2882 = .ok (.ifCond .eq 5, 3) := by decide +kernel
theorem dL_law_2885 : decode cL_law 2885 = .ok (.iconst 0, 1) := by decide +kernel
theorem dL_law_2886 : decode cL_law 2886 = .ok (.ireturn, 1) := by decide +kernel
theorem dL_law_2887 : decode cL_law 2887 = .ok (.goto 1151, 3) := by decide +kernel
theorem dL_law_2890 : decode cL_law 2890 = .ok (.aload_n 1, 1) := by decide +kernel
theorem dL_law_2891 : decode cL_law 2891 = .ok (.aload_n 0, 1) := by decide +kernel
theorem dL_law_2892 : decode cL_law 2892 = .ok (.iload 4, 2) := by decide +kernel
theorem dL_law_2894 : decode cL_law 2894 = .ok (.iconst 1, 1) := by decide +kernel
theorem dL_law_2895 : decode cL_law 2895 = .ok (.iadd, 1) := by decide +kernel
theorem dL_law_2896 : decode cL_law 2896 = .ok (.iaload, 1) := by decide +kernel
theorem dL_law_2897 : decode cL_law 2897 = .ok (.aload_n 3, 1) := by decide +kernel
theorem dL_law_2898 : decode cL_law 2898 = .ok (.invokestatic 332, 3) := by decide +kernel
theorem dL_law_2901 : decode cL_law 2901 = .ok (.istore 5, 2) := by decide +kernel
theorem dL_law_2903 : decode cL_law 2903 = .ok (.aload_n 2, 1) := by decide +kernel
theorem dL_law_2904 : decode cL_law 2904 = .ok (.aload_n 0, 1) := by decide +kernel
theorem dL_law_2905 : decode cL_law 2905 = .ok (.iload 4, 2) := by decide +kernel
theorem dL_law_2907 : decode cL_law 2907 = .ok (.iconst 1, 1) := by decide +kernel
theorem dL_law_2908 : decode cL_law 2908 = .ok (.iadd, 1) := by decide +kernel
theorem dL_law_2909 : decode cL_law 2909 = .ok (.iaload, 1) := by decide +kernel
theorem dL_law_2910 : decode cL_law 2910 = .ok (.invokevirtual 334, 3) := by decide +kernel
theorem dL_law_2913 : decode cL_law 2913 = .ok (.istore 6, 2) := by decide +kernel
theorem dL_law_2915 : decode cL_law 2915 = .ok (.aload_n 2, 1) := by decide +kernel
theorem dL_law_2916 : decode cL_law 2916 = .ok (.invokevirtual 204, 3) := by decide +kernel
theorem dL_law_2919 : decode cL_law 2919 = .ok (.iload 5, 2) := by decide +kernel
theorem dL_law_2921 : decode cL_law 2921 = .ok (.if_icmp .eq 5, 3) := by decide +kernel
theorem dL_law_2924 : decode cL_law 2924 = .ok (.iconst 0, 1) := by decide +kernel
theorem dL_law_2925 : decode cL_law 2925 = .ok (.ireturn, 1) := by decide +kernel
theorem dL_law_2926 : decode cL_law 2926 = .ok (.iload 5, 2) := by decide +kernel
theorem dL_law_2928 : decode cL_law 2928 = .ok (.ifCond .ne 22, 3) := by decide +kernel
theorem dL_law_2931 : decode cL_law 2931 = .ok (.aload_n 3, 1) := by decide +kernel
theorem dL_law_2932 : decode cL_law 2932 = .ok (.iconst 0, 1) := by decide +kernel
theorem dL_law_2933 : decode cL_law 2933 = .ok (.laload, 1) := by decide +kernel
theorem dL_law_2934 : decode cL_law 2934 = .ok (.iload 6, 2) := by decide +kernel
theorem dL_law_2936 : decode cL_law 2936 = .ok (.ifCond .eq 7, 3) := by decide +kernel
theorem dL_law_2939 : decode cL_law 2939 = .ok (.lconst 1, 1) := by decide +kernel
theorem dL_law_2940 : decode cL_law 2940 = .ok (.goto 4, 3) := by decide +kernel
theorem dL_law_2943 : decode cL_law 2943 = .ok (.lconst 0, 1) := by decide +kernel
theorem dL_law_2944 : decode cL_law 2944 = .ok (.lcmp, 1) := by decide +kernel
theorem dL_law_2945 : decode cL_law 2945 = .ok (.ifCond .eq 5, 3) := by decide +kernel
theorem dL_law_2948 : decode cL_law 2948 = .ok (.iconst 0, 1) := by decide +kernel
theorem dL_law_2949 : decode cL_law 2949 = .ok (.ireturn, 1) := by decide +kernel
theorem dL_law_2950 : decode cL_law 2950 = .ok (.goto 1088, 3) := by decide +kernel
theorem dL_law_2953 : decode cL_law 2953 = .ok (.aload_n 1, 1) := by decide +kernel
theorem dL_law_2954 : decode cL_law 2954 = .ok (.aload_n 3, 1) := by decide +kernel
theorem dL_law_2955 : decode cL_law 2955 = .ok (.invokestatic 335, 3) := by decide +kernel
theorem dL_law_2958 : decode cL_law 2958 = .ok (.istore 5, 2) := by decide +kernel
theorem dL_law_2960 : decode cL_law 2960 = .ok (.aload_n 2, 1) := by decide +kernel
theorem dL_law_2961 : decode cL_law 2961 = .ok (.invokevirtual 337, 3) := by decide +kernel
theorem dL_law_2964 : decode cL_law 2964 = .ok (.istore 6, 2) := by decide +kernel
theorem dL_law_2966 : decode cL_law 2966 = .ok (.aload_n 2, 1) := by decide +kernel
theorem dL_law_2967 : decode cL_law 2967 = .ok (.invokevirtual 204, 3) := by decide +kernel
theorem dL_law_2970 : decode cL_law 2970 = .ok (.iload 5, 2) := by decide +kernel
theorem dL_law_2972 : decode cL_law 2972 = .ok (.if_icmp .eq 5, 3) := by decide +kernel
theorem dL_law_2975 : decode cL_law 2975 = .ok (.iconst 0, 1) := by decide +kernel
theorem dL_law_2976 : decode cL_law 2976 = .ok (.ireturn, 1) := by decide +kernel
theorem dL_law_2977 : decode cL_law 2977 = .ok (.iload 5, 2) := by decide +kernel
theorem dL_law_2979 : decode cL_law 2979 = .ok (.ifCond .ne 15, 3) := by decide +kernel
theorem dL_law_2982 : decode cL_law 2982 = .ok (.aload_n 3, 1) := by decide +kernel
theorem dL_law_2983 : decode cL_law 2983 = .ok (.iconst 0, 1) := by decide +kernel
theorem dL_law_2984 : decode cL_law 2984 = .ok (.laload, 1) := by decide +kernel
theorem dL_law_2985 : decode cL_law 2985 = .ok (.iload 6, 2) := by decide +kernel
theorem dL_law_2987 : decode cL_law 2987 = .ok (.i2l, 1) := by decide +kernel
theorem dL_law_2988 : decode cL_law 2988 = .ok (.lcmp, 1) := by decide +kernel
theorem dL_law_2989 : decode cL_law 2989 = .ok (.ifCond .eq 5, 3) := by decide +kernel
theorem dL_law_2992 : decode cL_law 2992 = .ok (.iconst 0, 1) := by decide +kernel
theorem dL_law_2993 : decode cL_law 2993 = .ok (.ireturn, 1) := by decide +kernel
theorem dL_law_2994 : decode cL_law 2994 = .ok (.goto 1044, 3) := by decide +kernel
theorem dL_law_2997 : decode cL_law 2997 = .ok (.aload_n 1, 1) := by decide +kernel
theorem dL_law_2998 : decode cL_law 2998 = .ok (.aload_n 0, 1) := by decide +kernel
theorem dL_law_2999 : decode cL_law 2999 = .ok (.iload 4, 2) := by decide +kernel
theorem dL_law_3001 : decode cL_law 3001 = .ok (.iconst 1, 1) := by decide +kernel
theorem dL_law_3002 : decode cL_law 3002 = .ok (.iadd, 1) := by decide +kernel
theorem dL_law_3003 : decode cL_law 3003 = .ok (.iaload, 1) := by decide +kernel
theorem dL_law_3004 : decode cL_law 3004 = .ok (.aload_n 0, 1) := by decide +kernel
theorem dL_law_3005 : decode cL_law 3005 = .ok (.iload 4, 2) := by decide +kernel
theorem dL_law_3007 : decode cL_law 3007 = .ok (.iconst 2, 1) := by decide +kernel
theorem dL_law_3008 : decode cL_law 3008 = .ok (.iadd, 1) := by decide +kernel
theorem dL_law_3009 : decode cL_law 3009 = .ok (.iaload, 1) := by decide +kernel
theorem dL_law_3010 : decode cL_law 3010 = .ok (.aload_n 3, 1) := by decide +kernel
theorem dL_law_3011 : decode cL_law 3011 = .ok (.invokestatic 338, 3) := by decide +kernel
theorem dL_law_3014 : decode cL_law 3014 = .ok (.istore 5, 2) := by decide +kernel
theorem dL_law_3016 : decode cL_law 3016 = .ok (.aload_n 2, 1) := by decide +kernel
theorem dL_law_3017 : decode cL_law 3017 = .ok (.aload_n 0, 1) := by decide +kernel
theorem dL_law_3018 : decode cL_law 3018 = .ok (.iload 4, 2) := by decide +kernel
theorem dL_law_3020 : decode cL_law 3020 = .ok (.iconst 1, 1) := by decide +kernel
theorem dL_law_3021 : decode cL_law 3021 = .ok (.iadd, 1) := by decide +kernel
theorem dL_law_3022 : decode cL_law 3022 = .ok (.iaload, 1) := by decide +kernel
theorem dL_law_3023 : decode cL_law 3023 = .ok (.aload_n 0, 1) := by decide +kernel
theorem dL_law_3024 : decode cL_law 3024 = .ok (.iload 4, 2) := by decide +kernel
theorem dL_law_3026 : decode cL_law 3026 = .ok (.iconst 2, 1) := by decide +kernel
theorem dL_law_3027 : decode cL_law 3027 = .ok (.iadd, 1) := by decide +kernel
theorem dL_law_3028 : decode cL_law 3028 = .ok (.iaload, 1) := by decide +kernel
theorem dL_law_3029 : decode cL_law 3029 = .ok (.invokevirtual 340, 3) := by decide +kernel
theorem dL_law_3032 : decode cL_law 3032 = .ok (.istore 6, 2) := by decide +kernel
theorem dL_law_3034 : decode cL_law 3034 = .ok (.aload_n 2, 1) := by decide +kernel
theorem dL_law_3035 : decode cL_law 3035 = .ok (.invokevirtual 204, 3) := by decide +kernel
theorem dL_law_3038 : decode cL_law 3038 = .ok (.iload 5, 2) := by decide +kernel
theorem dL_law_3040 : decode cL_law 3040 = .ok (.if_icmp .eq 5, 3) := by decide +kernel
theorem dL_law_3043 : decode cL_law 3043 = .ok (.iconst 0, 1) := by decide +kernel
theorem dL_law_3044 : decode cL_law 3044 = .ok (.ireturn, 1) := by decide +kernel
theorem dL_law_3045 : decode cL_law 3045 = .ok (.iload 5, 2) := by decide +kernel
theorem dL_law_3047 : decode cL_law 3047 = .ok (.ifCond .ne 15, 3) := by decide +kernel
theorem dL_law_3050 : decode cL_law 3050 = .ok (.aload_n 3, 1) := by decide +kernel
theorem dL_law_3051 : decode cL_law 3051 = .ok (.iconst 0, 1) := by decide +kernel
theorem dL_law_3052 : decode cL_law 3052 = .ok (.laload, 1) := by decide +kernel
theorem dL_law_3053 : decode cL_law 3053 = .ok (.iload 6, 2) := by decide +kernel
theorem dL_law_3055 : decode cL_law 3055 = .ok (.i2l, 1) := by decide +kernel
theorem dL_law_3056 : decode cL_law 3056 = .ok (.lcmp, 1) := by decide +kernel
theorem dL_law_3057 : decode cL_law 3057 = .ok (.ifCond .eq 5, 3) := by decide +kernel
theorem dL_law_3060 : decode cL_law 3060 = .ok (.iconst 0, 1) := by decide +kernel
theorem dL_law_3061 : decode cL_law 3061 = .ok (.ireturn, 1) := by decide +kernel
theorem dL_law_3062 : decode cL_law 3062 = .ok (.goto 976, 3) := by decide +kernel
theorem dL_law_3065 : decode cL_law 3065 = .ok (.aload_n 1, 1) := by decide +kernel
theorem dL_law_3066 : decode cL_law 3066 = .ok (.aload_n 0, 1) := by decide +kernel
theorem dL_law_3067 : decode cL_law 3067 = .ok (.iload 4, 2) := by decide +kernel
theorem dL_law_3069 : decode cL_law 3069 = .ok (.iconst 1, 1) := by decide +kernel
theorem dL_law_3070 : decode cL_law 3070 = .ok (.iadd, 1) := by decide +kernel
theorem dL_law_3071 : decode cL_law 3071 = .ok (.iaload, 1) := by decide +kernel
theorem dL_law_3072 : decode cL_law 3072 = .ok (.aload_n 3, 1) := by decide +kernel
theorem dL_law_3073 : decode cL_law 3073 = .ok (.invokestatic 341, 3) := by decide +kernel
theorem dL_law_3076 : decode cL_law 3076 = .ok (.istore 5, 2) := by decide +kernel
theorem dL_law_3078 : decode cL_law 3078 = .ok (.aload_n 2, 1) := by decide +kernel
theorem dL_law_3079 : decode cL_law 3079 = .ok (.aload_n 0, 1) := by decide +kernel
theorem dL_law_3080 : decode cL_law 3080 = .ok (.iload 4, 2) := by decide +kernel
theorem dL_law_3082 : decode cL_law 3082 = .ok (.iconst 1, 1) := by decide +kernel
theorem dL_law_3083 : decode cL_law 3083 = .ok (.iadd, 1) := by decide +kernel
theorem dL_law_3084 : decode cL_law 3084 = .ok (.iaload, 1) := by decide +kernel
theorem dL_law_3085 : decode cL_law 3085 = .ok (.invokevirtual 343, 3) := by decide +kernel
theorem dL_law_3088 : decode cL_law 3088 = .ok (.istore 6, 2) := by decide +kernel
theorem dL_law_3090 : decode cL_law 3090 = .ok (.aload_n 2, 1) := by decide +kernel
theorem dL_law_3091 : decode cL_law 3091 = .ok (.invokevirtual 204, 3) := by decide +kernel
theorem dL_law_3094 : decode cL_law 3094 = .ok (.iload 5, 2) := by decide +kernel
theorem dL_law_3096 : decode cL_law 3096 = .ok (.if_icmp .eq 5, 3) := by decide +kernel
theorem dL_law_3099 : decode cL_law 3099 = .ok (.iconst 0, 1) := by decide +kernel
