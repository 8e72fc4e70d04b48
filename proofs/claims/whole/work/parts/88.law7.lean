theorem dL_law_3561 : decode cL_law 3561 = .ok (.invokevirtual 365, 3) := by decide +kernel
theorem dL_law_3564 : decode cL_law 3564 = .ok (.istore 6, 2) := by decide +kernel
theorem dL_law_3566 : decode cL_law 3566 = .ok (.aload_n 2, 1) := by decide +kernel
theorem dL_law_3567 : decode cL_law 3567 = .ok (.invokevirtual 204, 3) := by decide +kernel
theorem dL_law_3570 : decode cL_law 3570 = .ok (.iload 5, 2) := by decide +kernel
theorem dL_law_3572 : decode cL_law 3572 = .ok (.if_icmp .eq 5, 3) := by decide +kernel
theorem dL_law_3575 : decode cL_law 3575 = .ok (.iconst 0, 1) := by decide +kernel
theorem dL_law_3576 : decode cL_law 3576 = .ok (.ireturn, 1) := by decide +kernel
theorem dL_law_3577 : decode cL_law 3577 = .ok (.iload 5, 2) := by decide +kernel
theorem dL_law_3579 : decode cL_law 3579 = .ok (.ifCond .ne 15, 3) := by decide +kernel
theorem dL_law_3582 : decode cL_law 3582 = .ok (.aload_n 3, 1) := by decide +kernel
theorem dL_law_3583 : decode cL_law 3583 = .ok (.iconst 0, 1) := by decide +kernel
theorem dL_law_3584 : decode cL_law 3584 = .ok (.laload, 1) := by decide +kernel
theorem dL_law_3585 : decode cL_law 3585 = .ok (.iload 6, 2) := by decide +kernel
theorem dL_law_3587 : decode cL_law 3587 = .ok (.i2l, 1) := by decide +kernel
theorem dL_law_3588 : decode cL_law 3588 = .ok (.lcmp, 1) := by decide +kernel
theorem dL_law_3589 : decode cL_law 3589 = .ok (.ifCond .eq 5, 3) := by decide +kernel
theorem dL_law_3592 : decode cL_law 3592 = .ok (.iconst 0, 1) := by decide +kernel
theorem dL_law_3593 : decode cL_law 3593 = .ok (.ireturn, 1) := by decide +kernel
theorem dL_law_3594 : decode cL_law 3594 = .ok (.goto 444, 3) := by decide +kernel
theorem dL_law_3597 : decode cL_law 3597 = .ok (.aload_n 1, 1) := by decide +kernel
theorem dL_law_3598 : decode cL_law 3598 = .ok (.aload_n 0, 1) := by decide +kernel
theorem dL_law_3599 : decode cL_law 3599 = .ok (.iload 4, 2) := by decide +kernel
theorem dL_law_3601 : decode cL_law 3601 = .ok (.iconst 1, 1) := by decide +kernel
theorem dL_law_3602 : decode cL_law 3602 = .ok (.iadd, 1) := by decide +kernel
theorem dL_law_3603 : decode cL_law 3603 = .ok (.iaload, 1) := by decide +kernel
theorem dL_law_3604 : decode cL_law 3604 = .ok (.aload_n 3, 1) := by decide +kernel
theorem dL_law_3605 : decode cL_law 3605 = .ok (.invokestatic 366, 3) := by decide +kernel
theorem dL_law_3608 : decode cL_law 3608 = .ok (.istore 5, 2) := by decide +kernel
theorem dL_law_3610 : decode cL_law 3610 = .ok (.aload_n 2, 1) := by decide +kernel
theorem dL_law_3611 : decode cL_law 3611 = .ok (.aload_n 0, 1) := by decide +kernel
theorem dL_law_3612 : decode cL_law 3612 = .ok (.iload 4, 2) := by decide +kernel
theorem dL_law_3614 : decode cL_law 3614 = .ok (.iconst 1, 1) := by decide +kernel
theorem dL_law_3615 : decode cL_law 3615 = .ok (.iadd, 1) := by decide +kernel
theorem dL_law_3616 : decode cL_law 3616 = .ok (.iaload, 1) := by decide +kernel
theorem dL_law_3617 : decode cL_law 3617 = .ok (.invokevirtual 368, 3) := by decide +kernel
theorem dL_law_3620 : decode cL_law 3620 = .ok (.istore 6, 2) := by decide +kernel
theorem dL_law_3622 : decode cL_law 3622 = .ok (.aload_n 2, 1) := by decide +kernel
theorem dL_law_3623 : decode cL_law 3623 = .ok (.invokevirtual 204, 3) := by decide +kernel
theorem dL_law_3626 : decode cL_law 3626 = .ok (.iload 5, 2) := by decide +kernel
theorem dL_law_3628 : decode cL_law 3628 = .ok (.if_icmp .eq 5, 3) := by decide +kernel
theorem dL_law_3631 : decode cL_law 3631 = .ok (.iconst 0, 1) := by decide +kernel
theorem dL_law_3632 : decode cL_law 3632 = .ok (.ireturn, 1) := by decide +kernel
theorem dL_law_3633 : decode cL_law 3633 = .ok (.iload 5, 2) := by decide +kernel
theorem dL_law_3635 : decode cL_law 3635 = .ok (.ifCond .ne 15, 3) := by decide +kernel
theorem dL_law_3638 : decode cL_law 3638 = .ok (.aload_n 3, 1) := by decide +kernel
theorem dL_law_3639 : decode cL_law 3639 = .ok (.iconst 0, 1) := by decide +kernel
theorem dL_law_3640 : decode cL_law 3640 = .ok (.laload, 1) := by decide +kernel
theorem dL_law_3641 : decode cL_law 3641 = .ok (.iload 6, 2) := by decide +kernel
theorem dL_law_3643 : decode cL_law 3643 = .ok (.i2l, 1) := by decide +kernel
theorem dL_law_3644 : decode cL_law 3644 = .ok (.lcmp, 1) := by decide +kernel
theorem dL_law_3645 : decode cL_law 3645 = .ok (.ifCond .eq 5, 3) := by decide +kernel
theorem dL_law_3648 : decode cL_law 3648 = .ok (.iconst 0, 1) := by decide +kernel
theorem dL_law_3649 : decode cL_law 3649 = .ok (.ireturn, 1) := by decide +kernel
theorem dL_law_3650 : decode cL_law 3650 = .ok (.goto 388, 3) := by decide +kernel
theorem dL_law_3653 : decode cL_law 3653 = .ok (.aload_n 1, 1) := by decide +kernel
theorem dL_law_3654 : decode cL_law 3654 = .ok (.aload_n 0, 1) := by decide +kernel
theorem dL_law_3655 : decode cL_law 3655 = .ok (.iload 4, 2) := by decide +kernel
theorem dL_law_3657 : decode cL_law 3657 = .ok (.iconst 1, 1) := by decide +kernel
theorem dL_law_3658 : decode cL_law 3658 = .ok (.iadd, 1) := by decide +kernel
theorem dL_law_3659 : decode cL_law 3659 = .ok (.iaload, 1) := by decide +kernel
theorem dL_law_3660 : decode cL_law 3660 = .ok (.aload_n 3, 1) := by decide +kernel
theorem dL_law_3661 : decode cL_law 3661 = .ok (.invokestatic 369, 3) := by decide +kernel
theorem dL_law_3664 : decode cL_law 3664 = .ok (.istore 5, 2) := by decide +kernel
theorem dL_law_3666 : decode cL_law 3666 = .ok (.aload_n 2, 1) := by decide +kernel
theorem dL_law_3667 : decode cL_law 3667 = .ok (.aload_n 0, 1) := by decide +kernel
theorem dL_law_3668 : decode cL_law 3668 = .ok (.iload 4, 2) := by decide +kernel
theorem dL_law_3670 : decode cL_law 3670 = .ok (.iconst 1, 1) := by decide +kernel
theorem dL_law_3671 : decode cL_law 3671 = .ok (.iadd, 1) := by decide +kernel
theorem dL_law_3672 : decode cL_law 3672 = .ok (.iaload, 1) := by decide +kernel
theorem dL_law_3673 : decode cL_law 3673 = .ok (.invokevirtual 371, 3) := by decide +kernel
theorem dL_law_3676 : decode cL_law 3676 = .ok (.istore 6, 2) := by decide +kernel
theorem dL_law_3678 : decode cL_law 3678 = .ok (.aload_n 2, 1) := by decide +kernel
theorem dL_law_3679 : decode cL_law 3679 = .ok (.invokevirtual 204, 3) := by decide +kernel
theorem dL_law_3682 : decode cL_law 3682 = .ok (.iload 5, 2) := by decide +kernel
theorem dL_law_3684 : decode cL_law 3684 = .ok (.if_icmp .eq 5, 3) := by decide +kernel
theorem dL_law_3687 : decode cL_law 3687 = .ok (.iconst 0, 1) := by decide +kernel
theorem dL_law_3688 : decode cL_law 3688 = .ok (.ireturn, 1) := by decide +kernel
theorem dL_law_3689 : decode cL_law 3689 = .ok (.iload 5, 2) := by decide +kernel
theorem dL_law_3691 : decode cL_law 3691 = .ok (.ifCond .ne 15, 3) := by decide +kernel
theorem dL_law_3694 : decode cL_law 3694 = .ok (.aload_n 3, 1) := by decide +kernel
theorem dL_law_3695 : decode cL_law 3695 = .ok (.iconst 0, 1) := by decide +kernel
theorem dL_law_3696 : decode cL_law 3696 = .ok (.laload, 1) := by decide +kernel
theorem dL_law_3697 : decode cL_law 3697 = .ok (.iload 6, 2) := by decide +kernel
theorem dL_law_3699 : decode cL_law 3699 = .ok (.i2l, 1) := by decide +kernel
theorem dL_law_3700 : decode cL_law 3700 = .ok (.lcmp, 1) := by decide +kernel
theorem dL_law_3701 : decode cL_law 3701 = .ok (.ifCond .eq 5, 3) := by decide +kernel
theorem dL_law_3704 : decode cL_law 3704 = .ok (.iconst 0, 1) := by decide +kernel
theorem dL_law_3705 : decode cL_law 3705 = .ok (.ireturn, 1) := by decide +kernel
theorem dL_law_3706 : decode cL_law 3706 = .ok (.goto 332, 3) := by decide +kernel
theorem dL_law_3709 : decode cL_law 3709 = .ok (.aload_n 1, 1) := by decide +kernel
theorem dL_law_3710 : decode cL_law 3710 = .ok (.aload_n 0, 1) := by decide +kernel
theorem dL_law_3711 : decode cL_law 3711 = .ok (.iload 4, 2) := by decide +kernel
theorem dL_law_3713 : decode cL_law 3713 = .ok (.iconst 1, 1) := by decide +kernel
theorem dL_law_3714 : decode cL_law 3714 = .ok (.iadd, 1) := by decide +kernel
theorem dL_law_3715 : decode cL_law 3715 = .ok (.iaload, 1) := by decide +kernel
theorem dL_law_3716 : decode cL_law 3716 = .ok (.aload_n 0, 1) := by decide +kernel
theorem dL_law_3717 : decode cL_law 3717 = .ok (.iload 4, 2) := by decide +kernel
theorem dL_law_3719 : decode cL_law 3719 = .ok (.iconst 2, 1) := by decide +kernel
theorem dL_law_3720 : decode cL_law 3720 = .ok (.iadd, 1) := by decide +kernel
theorem dL_law_3721 : decode cL_law 3721 = .ok (.iaload, 1) := by decide +kernel
theorem dL_law_3722 : decode cL_law 3722 = .ok (.aload_n 0, 1) := by decide +kernel
theorem dL_law_3723 : decode cL_law 3723 = .ok (.iload 4, 2) := by decide +kernel
theorem dL_law_3725 : decode cL_law 3725 = .ok (.iconst 3, 1) := by decide +kernel
theorem dL_law_3726 : decode cL_law 3726 = .ok (.iadd, 1) := by decide +kernel
theorem dL_law_3727 : decode cL_law 3727 = .ok (.iaload, 1) := by decide +kernel
theorem dL_law_3728 : decode cL_law 3728 = .ok (.aload_n 3, 1) := by decide +kernel
theorem dL_law_3729 : decode cL_law 3729 = .ok (.invokestatic 372, 3) := by decide +kernel
theorem dL_law_3732 : decode cL_law 3732 = .ok (.istore 5, 2) := by decide +kernel
theorem dL_law_3734 : decode cL_law 3734 = .ok (.aload_n 2, 1) := by decide +kernel
theorem dL_law_3735 : decode cL_law 3735 = .ok (.aload_n 0, 1) := by decide +kernel
theorem dL_law_3736 : decode cL_law 3736 = .ok (.iload 4, 2) := by decide +kernel
theorem dL_law_3738 : decode cL_law 3738 = .ok (.iconst 1, 1) := by decide +kernel
theorem dL_law_3739 : decode cL_law 3739 = .ok (.iadd, 1) := by decide +kernel
theorem dL_law_3740 : decode cL_law 3740 = .ok (.iaload, 1) := by decide +kernel
theorem dL_law_3741 : decode cL_law 3741 = .ok (.aload_n 0, 1) := by decide +kernel
theorem dL_law_3742 : decode cL_law 3742 = .ok (.iload 4, 2) := by decide +kernel
theorem dL_law_3744 : decode cL_law 3744 = .ok (.iconst 2, 1) := by decide +kernel
theorem dL_law_3745 : decode cL_law 3745 = .ok (.iadd, 1) := by decide +kernel
theorem dL_law_3746 : decode cL_law 3746 = .ok (.iaload, 1) := by decide +kernel
theorem dL_law_3747 : decode cL_law 3747 = .ok (.aload_n 0, 1) := by decide +kernel
theorem dL_law_3748 : decode cL_law 3748 = .ok (.iload 4, 2) := by decide +kernel
theorem dL_law_3750 : decode cL_law 3750 = .ok (.iconst 3, 1) := by decide +kernel
theorem dL_law_3751 : decode cL_law 3751 = .ok (.iadd, 1) := by decide +kernel
theorem dL_law_3752 : decode cL_law 3752 = .ok (.iaload, 1) := by decide +kernel
theorem dL_law_3753 : decode cL_law 3753 = .ok (.invokevirtual 374, 3) := by decide +kernel
theorem dL_law_3756 : decode cL_law 3756 = .ok (.istore 6, 2) := by decide +kernel
theorem dL_law_3758 : decode cL_law 3758 = .ok (.aload_n 2, 1) := by decide +kernel
theorem dL_law_3759 : decode cL_law 3759 = .ok (.invokevirtual 204, 3) := by decide +kernel
theorem dL_law_3762 : decode cL_law 3762 = .ok (.iload 5, 2) := by decide +kernel
theorem dL_law_3764 : decode cL_law 3764 = .ok (.if_icmp .eq 5, 3) := by decide +kernel
theorem dL_law_3767 : decode cL_law 3767 = .ok (.iconst 0, 1) := by decide +kernel
theorem dL_law_3768 : decode cL_law 3768 = .ok (.ireturn, 1) := by decide +kernel
theorem dL_law_3769 : decode cL_law 3769 = .ok (.iload 5, 2) := by decide +kernel
theorem dL_law_3771 : decode cL_law 3771 = .ok (.ifCond .ne 15, 3) := by decide +kernel
theorem dL_law_3774 : decode cL_law 3774 = .ok (.aload_n 3, 1) := by decide +kernel
theorem dL_law_3775 : decode cL_law 3775 = .ok (.iconst 0, 1) := by decide +kernel
theorem dL_law_3776 : decode cL_law 3776 = .ok (.laload, 1) := by decide +kernel
theorem dL_law_3777 : decode cL_law 3777 = .ok (.iload 6, 2) := by decide +kernel
theorem dL_law_3779 : decode cL_law 3779 = .ok (.i2l, 1) := by decide +kernel
theorem dL_law_3780 : decode cL_law 3780 = .ok (.lcmp, 1) := by decide +kernel
theorem dL_law_3781 : decode cL_law 3781 = .ok (.ifCond .eq 5, 3) := by decide +kernel
theorem dL_law_3784 : decode cL_law 3784 = .ok (.iconst 0, 1) := by decide +kernel
theorem dL_law_3785 : decode cL_law 3785 = .ok (.ireturn, 1) := by decide +kernel
theorem dL_law_3786 : decode cL_law 3786 = .ok (.goto 252, 3) := by decide +kernel
theorem dL_law_3789 : decode cL_law 3789 = .ok (.aload_n 1, 1) := by decide +kernel
theorem dL_law_3790 : decode cL_law 3790 = .ok (.aload_n 0, 1) := by decide +kernel
theorem dL_law_3791 : decode cL_law 3791 = .ok (.iload 4, 2) := by decide +kernel
theorem dL_law_3793 : decode cL_law 3793 = .ok (.iconst 1, 1) := by decide +kernel
theorem dL_law_3794 : decode cL_law 3794 = .ok (.iadd, 1) := by decide +kernel
theorem dL_law_3795 : decode cL_law 3795 = .ok (.iaload, 1) := by decide +kernel
theorem dL_law_3796 : decode cL_law 3796 = .ok (.aload_n 0, 1) := by decide +kernel
theorem dL_law_3797 : decode cL_law 3797 = .ok (.iload 4, 2) := by decide +kernel
theorem dL_law_3799 : decode cL_law 3799 = .ok (.iconst 2, 1) := by decide +kernel
theorem dL_law_3800 : decode cL_law 3800 = .ok (.iadd, 1) := by decide +kernel
theorem dL_law_3801 : decode cL_law 3801 = .ok (.iaload, 1) := by decide +kernel
theorem dL_law_3802 : decode cL_law 3802 = .ok (.aload_n 0, 1) := by decide +kernel
theorem dL_law_3803 : decode cL_law 3803 = .ok (.iload 4, 2) := by decide +kernel
theorem dL_law_3805 : decode cL_law 3805 = .ok (.iconst 3, 1) := by decide +kernel
theorem dL_law_3806 : decode cL_law 3806 = .ok (.iadd, 1) := by decide +kernel
theorem dL_law_3807 : decode cL_law 3807 = .ok (.iaload, 1) := by decide +kernel
theorem dL_law_3808 : decode cL_law 3808 = .ok (.aload_n 3, 1) := by decide +kernel
theorem dL_law_3809 : decode cL_law 3809 = .ok (.invokestatic 375, 3) := by decide +kernel
theorem dL_law_3812 : decode cL_law 3812 = .ok (.istore 5, 2) := by decide +kernel
theorem dL_law_3814 : decode cL_law 3814 = .ok (.aload_n 2, 1) := by decide +kernel
theorem dL_law_3815 : decode cL_law 3815 = .ok (.aload_n 0, 1) := by decide +kernel
theorem dL_law_3816 : decode cL_law 3816 = .ok (.iload 4, 2) := by decide +kernel
theorem dL_law_3818 : decode cL_law 3818 = .ok (.iconst 1, 1) := by decide +kernel
theorem dL_law_3819 : decode cL_law 3819 = .ok (.iadd, 1) := by decide +kernel
theorem dL_law_3820 : decode cL_law 3820 = .ok (.iaload, 1) := by decide +kernel
theorem dL_law_3821 : decode cL_law 3821 = .ok (.aload_n 0, 1) := by decide +kernel
theorem dL_law_3822 : decode cL_law 3822 = .ok (.iload 4, 2) := by decide +kernel
theorem dL_law_3824 : decode cL_law 3824 = .ok (.iconst 2, 1) := by decide +kernel
theorem dL_law_3825 : decode cL_law 3825 = .ok (.iadd, 1) := by decide +kernel
theorem dL_law_3826 : decode cL_law 3826 = .ok (.iaload, 1) := by decide +kernel
theorem dL_law_3827 : decode cL_law 3827 = .ok (.aload_n 0, 1) := by decide +kernel
theorem dL_law_3828 : decode cL_law 3828 = .ok (.iload 4, 2) := by decide +kernel
theorem dL_law_3830 : decode cL_law 3830 = .ok (.iconst 3, 1) := by decide +kernel
theorem dL_law_3831 : decode cL_law 3831 = .ok (.iadd, 1) := by decide +kernel
theorem dL_law_3832 : decode cL_law 3832 = .ok (.iaload, 1) := by decide +kernel
theorem dL_law_3833 : decode cL_law 3833 = .ok (.invokevirtual 377, 3) := by decide +kernel
theorem dL_law_3836 : decode cL_law 3836 = .ok (.istore 6, 2) := by decide +kernel
theorem dL_law_3838 : decode cL_law 3838 = .ok (.aload_n 2, 1) := by decide +kernel
theorem dL_law_3839 : decode cL_law 3839 = .ok (.invokevirtual 204, 3) := by decide +kernel
theorem dL_law_3842 : decode cL_law 3842 = .ok (.iload 5, 2) := by decide +kernel
theorem dL_law_3844 : decode cL_law 3844 = .ok (.if_icmp .eq 5, 3) := by decide +kernel
theorem dL_law_3847 : decode cL_law 3847 = .ok (.iconst 0, 1) := by decide +kernel
theorem dL_law_3848 : decode cL_law 3848 = .ok (.ireturn, 1) := by decide +kernel
theorem dL_law_3849 : decode cL_law 3849 = .ok (.iload 5, 2) := by decide +kernel
theorem dL_law_3851 : decode cL_law 3851 = .ok (.ifCond .ne 15, 3) := by decide +kernel
theorem dL_law_3854 : decode cL_law 3854 = .ok (.aload_n 3, 1) := by decide +kernel
theorem dL_law_3855 : decode cL_law 3855 = .ok (.iconst 0, 1) := by decide +kernel
theorem dL_law_3856 : decode cL_law 3856 = .ok (.laload, 1) := by decide +kernel
theorem dL_law_3857 : decode cL_law 3857 = .ok (.iload 6, 2) := by decide +kernel
theorem dL_law_3859 : decode cL_law 3859 = .ok (.i2l, 1) := by decide +kernel
theorem dL_law_3860 : decode cL_law 3860 = .ok (.lcmp, 1) := by decide +kernel
theorem dL_law_3861 : decode cL_law 3861 = .ok (.ifCond .eq 5, 3) := by decide +kernel
theorem dL_law_3864 : decode cL_law 3864 = .ok (.iconst 0, 1) := by decide +kernel
theorem dL_law_3865 : decode cL_law 3865 = .ok (.ireturn, 1) := by decide +kernel
theorem dL_law_3866 : decode cL_law 3866 = .ok (.goto 172, 3) := by decide +kernel
theorem dL_law_3869 : decode cL_law 3869 = .ok (.aload_n 1, 1) := by decide +kernel
theorem dL_law_3870 : decode cL_law 3870 = .ok (.aload_n 3, 1) := by decide +kernel
theorem dL_law_3871 : decode cL_law 3871 = .ok (.invokestatic 378, 3) := by decide +kernel
theorem dL_law_3874 : decode cL_law 3874 = .ok (.istore 5, 2) := by decide +kernel
theorem dL_law_3876 : decode cL_law 3876 = .ok (.aload_n 2, 1) := by decide +kernel
theorem dL_law_3877 : decode cL_law 3877 = .ok (.invokevirtual 380, 3) := by decide +kernel
theorem dL_law_3880 : decode cL_law 3880 = .ok (.istore 6, 2) := by decide +kernel
theorem dL_law_3882 : decode cL_law 3882 = .ok (.aload_n 2, 1) := by decide +kernel
theorem dL_law_3883 : decode cL_law 3883 = .ok (.invokevirtual 204, 3) := by decide +kernel
theorem dL_law_3886 : decode cL_law 3886 = .ok (.iload 5, 2) := by decide +kernel
theorem dL_law_3888 : decode cL_law 3888 = .ok (.if_icmp .eq 5, 3) := by decide +kernel
theorem dL_law_3891 : decode cL_law 3891 = .ok (.iconst 0, 1) := by decide +kernel
theorem dL_law_3892 : decode cL_law 3892 = .ok (.ireturn, 1) := by decide +kernel
theorem dL_law_3893 : decode cL_law 3893 = .ok (.iload 5, 2) := by decide +kernel
theorem dL_law_3895 : decode cL_law 3895 = .ok (.ifCond .ne 15, 3) := by decide +kernel
theorem dL_law_3898 : decode cL_law 3898 = .ok (.aload_n 3, 1) := by decide +kernel
theorem dL_law_3899 : decode cL_law 3899 = .ok (.iconst 0, 1) := by decide +kernel
theorem dL_law_3900 : decode cL_law 3900 = .ok (.laload, 1) := by decide +kernel
theorem dL_law_3901 : decode cL_law 3901 = .ok (.iload 6, 2) := by decide +kernel
theorem dL_law_3903 : decode cL_law 3903 = .ok (.i2l, 1) := by decide +kernel
theorem dL_law_3904 : decode cL_law 3904 = .ok (.lcmp, 1) := by decide +kernel
theorem dL_law_3905 : decode cL_law 3905 = .ok (.ifCond .eq 5, 3) := by decide +kernel
theorem dL_law_3908 : decode cL_law 3908 = .ok (.iconst 0, 1) := by decide +kernel
theorem dL_law_3909 : decode cL_law 3909 = .ok (.ireturn, 1) := by decide +kernel
theorem dL_law_3910 : decode cL_law 3910 = .ok (.goto 128, 3) := by decide +kernel
theorem dL_law_3913 : decode cL_law 3913 = .ok (.aload_n 1, 1) := by decide +kernel
theorem dL_law_3914 : decode cL_law 3914 = .ok (.invokevirtual 381, 3) := by decide +kernel
theorem dL_law_3917 : decode cL_law 3917 = .ok (.aload_n 2, 1) := by decide +kernel
theorem dL_law_3918 : decode cL_law 3918 = .ok (.invokevirtual 384, 3) := by decide +kernel
theorem dL_law_3921 : decode cL_law 3921 = .ok (.if_icmp .eq 117, 3) := by decide +kernel
theorem dL_law_3924 : decode cL_law 3924 = .ok (.iconst 0, 1) := by decide +kernel
theorem dL_law_3925 : decode cL_law 3925 = .ok (.ireturn, 1) := by decide +kernel
theorem dL_law_3926 : decode cL_law 3926 = .ok (.aload_n 1, 1) := by decide +kernel
theorem dL_law_3927 : decode cL_law 3927 = .ok (.aload_n 0, 1) := by decide +kernel
theorem dL_law_3928 : decode cL_law 3928 = .ok (.iload 4, 2) := by decide +kernel
theorem dL_law_3930 : decode cL_law 3930 = .ok (.iconst 1, 1) := by decide +kernel
theorem dL_law_3931 : decode cL_law 3931 = .ok (.iadd, 1) := by decide +kernel
theorem dL_law_3932 : decode cL_law 3932 = .ok (.iaload, 1) := by decide +kernel
theorem dL_law_3933 : decode cL_law 3933 = .ok (.aload_n 3, 1) := by decide +kernel
theorem dL_law_3934 : decode cL_law 3934 = .ok (.invokestatic 385, 3) := by decide +kernel
theorem dL_law_3937 : decode cL_law 3937 = .ok (.istore 5, 2) := by decide +kernel
theorem dL_law_3939 : decode cL_law 3939 = .ok (.aload_n 2, 1) := by decide +kernel
theorem dL_law_3940 : decode cL_law 3940 = .ok (.aload_n 0, 1) := by decide +kernel
theorem dL_law_3941 : decode cL_law 3941 = .ok (.iload 4, 2) := by decide +kernel
theorem dL_law_3943 : decode cL_law 3943 = .ok (.iconst 1, 1) := by decide +kernel
theorem dL_law_3944 : decode cL_law 3944 = .ok (.iadd, 1) := by decide +kernel
theorem dL_law_3945 : decode cL_law 3945 = .ok (.iaload, 1) := by decide +kernel
theorem dL_law_3946 : decode cL_law 3946 = .ok (.invokevirtual 387, 3) := by decide +kernel
theorem dL_law_3949 : decode cL_law 3949 = .ok (.istore 6, 2) := by decide +kernel
theorem dL_law_3951 : decode cL_law 3951 = .ok (.aload_n 2, 1) := by decide +kernel
theorem dL_law_3952 : decode cL_law 3952 = .ok (.invokevirtual 204, 3) := by decide +kernel
theorem dL_law_3955 : decode cL_law 3955 = .ok (.iload 5, 2) := by decide +kernel
theorem dL_law_3957 : decode cL_law 3957 = .ok (.if_icmp .eq 5, 3) := by decide +kernel
theorem dL_law_3960 : decode cL_law 3960 = .ok (.iconst 0, 1) := by decide +kernel
theorem dL_law_3961 : decode cL_law 3961 = .ok (.ireturn, 1) := by decide +kernel
theorem dL_law_3962 : decode cL_law 3962 = .ok (.iload 5, 2) := by decide +kernel
theorem dL_law_3964 : decode cL_law 3964 = .ok (.ifCond .ne 15, 3) := by decide +kernel
theorem dL_law_3967 : decode cL_law 3967 = .ok (.aload_n 3, 1) := by decide +kernel
theorem dL_law_3968 : decode cL_law 3968 = .ok (.iconst 0, 1) := by decide +kernel
theorem dL_law_3969 : decode cL_law 3969 = .ok (.laload, 1) := by decide +kernel
theorem dL_law_3970 : decode cL_law 3970 = .ok (.iload 6, 2) := by decide +kernel
theorem dL_law_3972 : decode cL_law 3972 = .ok (.i2l, 1) := by decide +kernel
theorem dL_law_3973 : decode cL_law 3973 = .ok (.lcmp, 1) := by decide +kernel
theorem dL_law_3974 : decode cL_law 3974 = .ok (.ifCond .eq 5, 3) := by decide +kernel
theorem dL_law_3977 : decode cL_law 3977 = .ok (.iconst 0, 1) := by decide +kernel
theorem dL_law_3978 : decode cL_law 3978 = .ok (.ireturn, 1) := by decide +kernel
theorem dL_law_3979 : decode cL_law 3979 = .ok (.goto 59, 3) := by decide +kernel
theorem dL_law_3982 : decode cL_law 3982 = .ok (.aload_n 1, 1) := by decide +kernel
theorem dL_law_3983 : decode cL_law 3983 = .ok (.aload_n 0, 1) := by decide +kernel
theorem dL_law_3984 : decode cL_law 3984 = .ok (.iload 4, 2) := by decide +kernel
theorem dL_law_3986 : decode cL_law 3986 = .ok (.iconst 1, 1) := by decide +kernel
theorem dL_law_3987 : decode cL_law 3987 = .ok (.iadd, 1) := by decide +kernel
theorem dL_law_3988 : decode cL_law 3988 = .ok (.iaload, 1) := by decide +kernel
theorem dL_law_3989 : decode cL_law 3989 = .ok (.aload_n 3, 1) := by decide +kernel
theorem dL_law_3990 : decode cL_law 3990 = .ok (.invokestatic 388, 3) := by decide +kernel
theorem dL_law_3993 : decode cL_law 3993 = .ok (.istore 5, 2) := by decide +kernel
theorem dL_law_3995 : decode cL_law 3995 = .ok (.aload_n 2, 1) := by decide +kernel
theorem dL_law_3996 : decode cL_law 3996 = .ok (.aload_n 0, 1) := by decide +kernel
theorem dL_law_3997 : decode cL_law 3997 = .ok (.iload 4, 2) := by decide +kernel
theorem dL_law_3999 : decode cL_law 3999 = .ok (.iconst 1, 1) := by decide +kernel
theorem dL_law_4000 : decode cL_law 4000 = .ok (.iadd, 1) := by decide +kernel
theorem dL_law_4001 : decode cL_law 4001 = .ok (.iaload, 1) := by decide +kernel
theorem dL_law_4002 : decode cL_law 4002 = .ok (.invokevirtual 390, 3) := by decide +kernel
theorem dL_law_4005 : decode cL_law 4005 = .ok (.istore 6, 2) := by decide +kernel
theorem dL_law_4007 : decode cL_law 4007 = .ok (.aload_n 2, 1) := by decide +kernel
theorem dL_law_4008 : decode cL_law 4008 = .ok (.invokevirtual 204, 3) := by decide +kernel
theorem dL_law_4011 : decode cL_law 4011 = .ok (.iload 5, 2) := by decide +kernel
theorem dL_law_4013 : decode cL_law 4013 = .ok (.if_icmp .eq 5, 3) := by decide +kernel
theorem dL_law_4016 : decode cL_law 4016 = .ok (.iconst 0, 1) := by decide +kernel
theorem dL_law_4017 : decode cL_law 4017 = .ok (.ireturn, 1) := by decide +kernel
theorem dL_law_4018 : decode cL_law 4018 = .ok (.iload 5, 2) := by decide +kernel
theorem dL_law_4020 : decode cL_law 4020 = .ok (.ifCond .ne 15, 3) := by decide +kernel
theorem dL_law_4023 : decode cL_law 4023 = .ok (.aload_n 3, 1) := by decide +kernel
theorem dL_law_4024 : decode cL_law 4024 = .ok (.iconst 0, 1) := by decide +kernel
theorem dL_law_4025 : decode cL_law 4025 = .ok (.laload, 1) := by decide +kernel
theorem dL_law_4026 : decode cL_law 4026 = .ok (.iload 6, 2) := by decide +kernel
theorem dL_law_4028 : decode cL_law 4028 = .ok (.i2l, 1) := by decide +kernel
theorem dL_law_4029 : decode cL_law 4029 = .ok (.lcmp, 1) := by decide +kernel
theorem dL_law_4030 : decode cL_law 4030 = .ok (.ifCond .eq 5, 3) := by decide +kernel
theorem dL_law_4033 : decode cL_law 4033 = .ok (.iconst 0, 1) := by decide +kernel
theorem dL_law_4034 : decode cL_law 4034 = .ok (.ireturn, 1) := by decide +kernel
theorem dL_law_4035 : decode cL_law 4035 = .ok (.goto 3, 3) := by decide +kernel
theorem dL_law_4038 : decode cL_law 4038 = .ok (.iinc 4 6, 3) := by decide +kernel
theorem dL_law_4041 : decode cL_law 4041 = .ok (.goto (-4018), 3) := by decide +kernel
theorem dL_law_4044 : decode cL_law 4044 = .ok (.iconst 1, 1) := by decide +kernel
theorem dL_law_4045 : decode cL_law 4045 = .ok (.ireturn, 1) := by decide +kernel
