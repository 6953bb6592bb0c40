theorem dL_law__602 : decode cL_law_ 602 = .ok (.istore 6, 2) := by decide +kernel
theorem dL_law__604 : decode cL_law_ 604 = .ok (.aload_n 2, 1) := by decide +kernel
theorem dL_law__605 : decode cL_law_ 605 = .ok (.invokevirtual 136, 3) := by decide +kernel
theorem dL_law__608 : decode cL_law_ 608 = .ok (.iload 5, 2) := by decide +kernel
theorem dL_law__610 : decode cL_law_ 610 = .ok (.if_icmp .eq 5, 3) := by decide +kernel
theorem dL_law__615 : decode cL_law_ 615 = .ok (.iload 5, 2) := by decide +kernel
theorem dL_law__617 : decode cL_law_ 617 = .ok (.ifCond .ne 15, 3) := by decide +kernel
theorem dL_law__620 : decode cL_law_ 620 = .ok (.aload_n 3, 1) := by decide +kernel
theorem dL_law__621 : decode cL_law_ 621 = .ok (.iconst 0, 1) := by decide +kernel
theorem dL_law__622 : decode cL_law_ 622 = .ok (.laload, 1) := by decide +kernel
theorem dL_law__623 : decode cL_law_ 623 = .ok (.iload 6, 2) := by decide +kernel
theorem dL_law__625 : decode cL_law_ 625 = .ok (.i2l, 1) := by decide +kernel
theorem dL_law__626 : decode cL_law_ 626 = .ok (.lcmp, 1) := by decide +kernel
theorem dL_law__627 : decode cL_law_ 627 = .ok (.ifCond .eq 5, 3) := by decide +kernel
theorem dL_law__632 : decode cL_law_ 632 = .ok (.goto 1982, 3) := by decide +kernel
theorem dL_law__635 : decode cL_law_ 635 = .ok (.aload_n 1, 1) := by decide +kernel
theorem dL_law__636 : decode cL_law_ 636 = .ok (.aload_n 0, 1) := by decide +kernel
theorem dL_law__637 : decode cL_law_ 637 = .ok (.iload 4, 2) := by decide +kernel
theorem dL_law__639 : decode cL_law_ 639 = .ok (.iconst 1, 1) := by decide +kernel
theorem dL_law__640 : decode cL_law_ 640 = .ok (.iadd, 1) := by decide +kernel
theorem dL_law__641 : decode cL_law_ 641 = .ok (.iaload, 1) := by decide +kernel
theorem dL_law__642 : decode cL_law_ 642 = .ok (.aload_n 0, 1) := by decide +kernel
theorem dL_law__643 : decode cL_law_ 643 = .ok (.iload 4, 2) := by decide +kernel
theorem dL_law__645 : decode cL_law_ 645 = .ok (.iconst 2, 1) := by decide +kernel
theorem dL_law__646 : decode cL_law_ 646 = .ok (.iadd, 1) := by decide +kernel
theorem dL_law__647 : decode cL_law_ 647 = .ok (.iaload, 1) := by decide +kernel
theorem dL_law__648 : decode cL_law_ 648 = .ok (.aload_n 0, 1) := by decide +kernel
theorem dL_law__649 : decode cL_law_ 649 = .ok (.iload 4, 2) := by decide +kernel
theorem dL_law__651 : decode cL_law_ 651 = .ok (.iconst 3, 1) := by decide +kernel
theorem dL_law__652 : decode cL_law_ 652 = .ok (.iadd, 1) := by decide +kernel
theorem dL_law__653 : decode cL_law_ 653 = .ok (.iaload, 1) := by decide +kernel
theorem dL_law__654 : decode cL_law_ 654 = .ok (.aload_n 0, 1) := by decide +kernel
theorem dL_law__655 : decode cL_law_ 655 = .ok (.iload 4, 2) := by decide +kernel
theorem dL_law__657 : decode cL_law_ 657 = .ok (.iconst 4, 1) := by decide +kernel
theorem dL_law__658 : decode cL_law_ 658 = .ok (.iadd, 1) := by decide +kernel
theorem dL_law__659 : decode cL_law_ 659 = .ok (.iaload, 1) := by decide +kernel
theorem dL_law__660 : decode cL_law_ 660 = .ok (.aload_n 3, 1) := by decide +kernel
theorem dL_law__661 : decode cL_law_ 661 = .ok (.invokestatic 156, 3) := by decide +kernel
theorem dL_law__664 : decode cL_law_ 664 = .ok (.istore 5, 2) := by decide +kernel
theorem dL_law__666 : decode cL_law_ 666 = .ok (.aload_n 2, 1) := by decide +kernel
theorem dL_law__667 : decode cL_law_ 667 = .ok (.aload_n 0, 1) := by decide +kernel
theorem dL_law__668 : decode cL_law_ 668 = .ok (.iload 4, 2) := by decide +kernel
theorem dL_law__670 : decode cL_law_ 670 = .ok (.iconst 1, 1) := by decide +kernel
theorem dL_law__671 : decode cL_law_ 671 = .ok (.iadd, 1) := by decide +kernel
theorem dL_law__672 : decode cL_law_ 672 = .ok (.iaload, 1) := by decide +kernel
theorem dL_law__673 : decode cL_law_ 673 = .ok (.aload_n 0, 1) := by decide +kernel
theorem dL_law__674 : decode cL_law_ 674 = .ok (.iload 4, 2) := by decide +kernel
theorem dL_law__676 : decode cL_law_ 676 = .ok (.iconst 2, 1) := by decide +kernel
theorem dL_law__677 : decode cL_law_ 677 = .ok (.iadd, 1) := by decide +kernel
theorem dL_law__678 : decode cL_law_ 678 = .ok (.iaload, 1) := by decide +kernel
theorem dL_law__679 : decode cL_law_ 679 = .ok (.aload_n 0, 1) := by decide +kernel
theorem dL_law__680 : decode cL_law_ 680 = .ok (.iload 4, 2) := by decide +kernel
theorem dL_law__682 : decode cL_law_ 682 = .ok (.iconst 3, 1) := by decide +kernel
theorem dL_law__683 : decode cL_law_ 683 = .ok (.iadd, 1) := by decide +kernel
theorem dL_law__684 : decode cL_law_ 684 = .ok (.iaload, 1) := by decide +kernel
theorem dL_law__685 : decode cL_law_ 685 = .ok (.aload_n 0, 1) := by decide +kernel
theorem dL_law__686 : decode cL_law_ 686 = .ok (.iload 4, 2) := by decide +kernel
theorem dL_law__688 : decode cL_law_ 688 = .ok (.iconst 4, 1) := by decide +kernel
theorem dL_law__689 : decode cL_law_ 689 = .ok (.iadd, 1) := by decide +kernel
theorem dL_law__690 : decode cL_law_ 690 = .ok (.iaload, 1) := by decide +kernel
theorem dL_law__691 : decode cL_law_ 691 = .ok (.invokevirtual 159, 3) := by decide +kernel
theorem dL_law__694 : decode cL_law_ 694 = .ok (.istore 6, 2) := by decide +kernel
theorem dL_law__696 : decode cL_law_ 696 = .ok (.aload_n 2, 1) := by decide +kernel
theorem dL_law__697 : decode cL_law_ 697 = .ok (.invokevirtual 136, 3) := by decide +kernel
theorem dL_law__700 : decode cL_law_ 700 = .ok (.iload 5, 2) := by decide +kernel
theorem dL_law__702 : decode cL_law_ 702 = .ok (.if_icmp .eq 5, 3) := by decide +kernel
theorem dL_law__707 : decode cL_law_ 707 = .ok (.iload 5, 2) := by decide +kernel
theorem dL_law__709 : decode cL_law_ 709 = .ok (.ifCond .ne 15, 3) := by decide +kernel
theorem dL_law__712 : decode cL_law_ 712 = .ok (.aload_n 3, 1) := by decide +kernel
theorem dL_law__713 : decode cL_law_ 713 = .ok (.iconst 0, 1) := by decide +kernel
theorem dL_law__714 : decode cL_law_ 714 = .ok (.laload, 1) := by decide +kernel
theorem dL_law__715 : decode cL_law_ 715 = .ok (.iload 6, 2) := by decide +kernel
theorem dL_law__717 : decode cL_law_ 717 = .ok (.i2l, 1) := by decide +kernel
theorem dL_law__718 : decode cL_law_ 718 = .ok (.lcmp, 1) := by decide +kernel
theorem dL_law__719 : decode cL_law_ 719 = .ok (.ifCond .eq 5, 3) := by decide +kernel
theorem dL_law__724 : decode cL_law_ 724 = .ok (.goto 1890, 3) := by decide +kernel
theorem dL_law__727 : decode cL_law_ 727 = .ok (.aload_n 1, 1) := by decide +kernel
theorem dL_law__728 : decode cL_law_ 728 = .ok (.aload_n 0, 1) := by decide +kernel
theorem dL_law__729 : decode cL_law_ 729 = .ok (.iload 4, 2) := by decide +kernel
theorem dL_law__731 : decode cL_law_ 731 = .ok (.iconst 1, 1) := by decide +kernel
theorem dL_law__732 : decode cL_law_ 732 = .ok (.iadd, 1) := by decide +kernel
theorem dL_law__733 : decode cL_law_ 733 = .ok (.iaload, 1) := by decide +kernel
theorem dL_law__734 : decode cL_law_ 734 = .ok (.aload_n 0, 1) := by decide +kernel
theorem dL_law__735 : decode cL_law_ 735 = .ok (.iload 4, 2) := by decide +kernel
theorem dL_law__737 : decode cL_law_ 737 = .ok (.iconst 2, 1) := by decide +kernel
theorem dL_law__738 : decode cL_law_ 738 = .ok (.iadd, 1) := by decide +kernel
theorem dL_law__739 : decode cL_law_ 739 = .ok (.iaload, 1) := by decide +kernel
theorem dL_law__740 : decode cL_law_ 740 = .ok (.aload_n 0, 1) := by decide +kernel
theorem dL_law__741 : decode cL_law_ 741 = .ok (.iload 4, 2) := by decide +kernel
theorem dL_law__743 : decode cL_law_ 743 = .ok (.iconst 3, 1) := by decide +kernel
theorem dL_law__744 : decode cL_law_ 744 = .ok (.iadd, 1) := by decide +kernel
theorem dL_law__745 : decode cL_law_ 745 = .ok (.iaload, 1) := by decide +kernel
theorem dL_law__746 : decode cL_law_ 746 = .ok (.aload_n 0, 1) := by decide +kernel
theorem dL_law__747 : decode cL_law_ 747 = .ok (.iload 4, 2) := by decide +kernel
theorem dL_law__749 : decode cL_law_ 749 = .ok (.iconst 4, 1) := by decide +kernel
theorem dL_law__750 : decode cL_law_ 750 = .ok (.iadd, 1) := by decide +kernel
theorem dL_law__751 : decode cL_law_ 751 = .ok (.iaload, 1) := by decide +kernel
theorem dL_law__752 : decode cL_law_ 752 = .ok (.aload_n 3, 1) := by decide +kernel
theorem dL_law__753 : decode cL_law_ 753 = .ok (.invokestatic 160, 3) := by decide +kernel
theorem dL_law__756 : decode cL_law_ 756 = .ok (.istore 5, 2) := by decide +kernel
theorem dL_law__758 : decode cL_law_ 758 = .ok (.aload_n 2, 1) := by decide +kernel
theorem dL_law__759 : decode cL_law_ 759 = .ok (.aload_n 0, 1) := by decide +kernel
theorem dL_law__760 : decode cL_law_ 760 = .ok (.iload 4, 2) := by decide +kernel
theorem dL_law__762 : decode cL_law_ 762 = .ok (.iconst 1, 1) := by decide +kernel
theorem dL_law__763 : decode cL_law_ 763 = .ok (.iadd, 1) := by decide +kernel
theorem dL_law__764 : decode cL_law_ 764 = .ok (.iaload, 1) := by decide +kernel
theorem dL_law__765 : decode cL_law_ 765 = .ok (.aload_n 0, 1) := by decide +kernel
theorem dL_law__766 : decode cL_law_ 766 = .ok (.iload 4, 2) := by decide +kernel
theorem dL_law__768 : decode cL_law_ 768 = .ok (.iconst 2, 1) := by decide +kernel
theorem dL_law__769 : decode cL_law_ 769 = .ok (.iadd, 1) := by decide +kernel
theorem dL_law__770 : decode cL_law_ 770 = .ok (.iaload, 1) := by decide +kernel
theorem dL_law__771 : decode cL_law_ 771 = .ok (.aload_n 0, 1) := by decide +kernel
theorem dL_law__772 : decode cL_law_ 772 = .ok (.iload 4, 2) := by decide +kernel
theorem dL_law__774 : decode cL_law_ 774 = .ok (.iconst 3, 1) := by decide +kernel
theorem dL_law__775 : decode cL_law_ 775 = .ok (.iadd, 1) := by decide +kernel
theorem dL_law__776 : decode cL_law_ 776 = .ok (.iaload, 1) := by decide +kernel
theorem dL_law__777 : decode cL_law_ 777 = .ok (.aload_n 0, 1) := by decide +kernel
theorem dL_law__778 : decode cL_law_ 778 = .ok (.iload 4, 2) := by decide +kernel
theorem dL_law__780 : decode cL_law_ 780 = .ok (.iconst 4, 1) := by decide +kernel
theorem dL_law__781 : decode cL_law_ 781 = .ok (.iadd, 1) := by decide +kernel
theorem dL_law__782 : decode cL_law_ 782 = .ok (.iaload, 1) := by decide +kernel
theorem dL_law__783 : decode cL_law_ 783 = .ok (.invokevirtual 162, 3) := by decide +kernel
theorem dL_law__786 : decode cL_law_ 786 = .ok (.istore 6, 2) := by decide +kernel
theorem dL_law__788 : decode cL_law_ 788 = .ok (.aload_n 2, 1) := by decide +kernel
theorem dL_law__789 : decode cL_law_ 789 = .ok (.invokevirtual 136, 3) := by decide +kernel
theorem dL_law__792 : decode cL_law_ 792 = .ok (.iload 5, 2) := by decide +kernel
theorem dL_law__794 : decode cL_law_ 794 = .ok (.if_icmp .eq 5, 3) := by decide +kernel
theorem dL_law__799 : decode cL_law_ 799 = .ok (.iload 5, 2) := by decide +kernel
theorem dL_law__801 : decode cL_law_ 801 = .ok (.ifCond .ne 15, 3) := by decide +kernel
theorem dL_law__804 : decode cL_law_ 804 = .ok (.aload_n 3, 1) := by decide +kernel
theorem dL_law__805 : decode cL_law_ 805 = .ok (.iconst 0, 1) := by decide +kernel
theorem dL_law__806 : decode cL_law_ 806 = .ok (.laload, 1) := by decide +kernel
theorem dL_law__807 : decode cL_law_ 807 = .ok (.iload 6, 2) := by decide +kernel
theorem dL_law__809 : decode cL_law_ 809 = .ok (.i2l, 1) := by decide +kernel
theorem dL_law__810 : decode cL_law_ 810 = .ok (.lcmp, 1) := by decide +kernel
theorem dL_law__811 : decode cL_law_ 811 = .ok (.ifCond .eq 5, 3) := by decide +kernel
theorem dL_law__816 : decode cL_law_ 816 = .ok (.goto 1798, 3) := by decide +kernel
theorem dL_law__819 : decode cL_law_ 819 = .ok (.aload_n 1, 1) := by decide +kernel
theorem dL_law__820 : decode cL_law_ 820 = .ok (.aload_n 0, 1) := by decide +kernel
theorem dL_law__821 : decode cL_law_ 821 = .ok (.iload 4, 2) := by decide +kernel
theorem dL_law__823 : decode cL_law_ 823 = .ok (.iconst 1, 1) := by decide +kernel
theorem dL_law__824 : decode cL_law_ 824 = .ok (.iadd, 1) := by decide +kernel
theorem dL_law__825 : decode cL_law_ 825 = .ok (.iaload, 1) := by decide +kernel
theorem dL_law__826 : decode cL_law_ 826 = .ok (.aload_n 3, 1) := by decide +kernel
theorem dL_law__827 : decode cL_law_ 827 = .ok (.invokestatic 163, 3) := by decide +kernel
theorem dL_law__830 : decode cL_law_ 830 = .ok (.istore 5, 2) := by decide +kernel
theorem dL_law__832 : decode cL_law_ 832 = .ok (.aload_n 2, 1) := by decide +kernel
theorem dL_law__833 : decode cL_law_ 833 = .ok (.aload_n 0, 1) := by decide +kernel
theorem dL_law__834 : decode cL_law_ 834 = .ok (.iload 4, 2) := by decide +kernel
theorem dL_law__836 : decode cL_law_ 836 = .ok (.iconst 1, 1) := by decide +kernel
theorem dL_law__837 : decode cL_law_ 837 = .ok (.iadd, 1) := by decide +kernel
theorem dL_law__838 : decode cL_law_ 838 = .ok (.iaload, 1) := by decide +kernel
theorem dL_law__839 : decode cL_law_ 839 = .ok (.invokevirtual 166, 3) := by decide +kernel
theorem dL_law__842 : decode cL_law_ 842 = .ok (.istore 6, 2) := by decide +kernel
theorem dL_law__844 : decode cL_law_ 844 = .ok (.aload_n 2, 1) := by decide +kernel
theorem dL_law__845 : decode cL_law_ 845 = .ok (.invokevirtual 136, 3) := by decide +kernel
theorem dL_law__848 : decode cL_law_ 848 = .ok (.iload 5, 2) := by decide +kernel
theorem dL_law__850 : decode cL_law_ 850 = .ok (.if_icmp .eq 5, 3) := by decide +kernel
theorem dL_law__855 : decode cL_law_ 855 = .ok (.iload 5, 2) := by decide +kernel
theorem dL_law__857 : decode cL_law_ 857 = .ok (.ifCond .ne 15, 3) := by decide +kernel
theorem dL_law__860 : decode cL_law_ 860 = .ok (.aload_n 3, 1) := by decide +kernel
theorem dL_law__861 : decode cL_law_ 861 = .ok (.iconst 0, 1) := by decide +kernel
theorem dL_law__862 : decode cL_law_ 862 = .ok (.laload, 1) := by decide +kernel
theorem dL_law__863 : decode cL_law_ 863 = .ok (.iload 6, 2) := by decide +kernel
theorem dL_law__865 : decode cL_law_ 865 = .ok (.i2l, 1) := by decide +kernel
theorem dL_law__866 : decode cL_law_ 866 = .ok (.lcmp, 1) := by decide +kernel
theorem dL_law__867 : decode cL_law_ 867 = .ok (.ifCond .eq 5, 3) := by decide +kernel
theorem dL_law__872 : decode cL_law_ 872 = .ok (.goto 1742, 3) := by decide +kernel
theorem dL_law__875 : decode cL_law_ 875 = .ok (.aload_n 1, 1) := by decide +kernel
theorem dL_law__876 : decode cL_law_ 876 = .ok (.aload_n 0, 1) := by decide +kernel
theorem dL_law__877 : decode cL_law_ 877 = .ok (.iload 4, 2) := by decide +kernel
theorem dL_law__879 : decode cL_law_ 879 = .ok (.iconst 1, 1) := by decide +kernel
theorem dL_law__880 : decode cL_law_ 880 = .ok (.iadd, 1) := by decide +kernel
theorem dL_law__881 : decode cL_law_ 881 = .ok (.iaload, 1) := by decide +kernel
theorem dL_law__882 : decode cL_law_ 882 = .ok (.aload_n 3, 1) := by decide +kernel
theorem dL_law__883 : decode cL_law_ 883 = .ok (.invokestatic 167, 3) := by decide +kernel
theorem dL_law__886 : decode cL_law_ 886 = .ok (.istore 5, 2) := by decide +kernel
theorem dL_law__888 : decode cL_law_ 888 = .ok (.aload_n 2, 1) := by decide +kernel
theorem dL_law__889 : decode cL_law_ 889 = .ok (.aload_n 0, 1) := by decide +kernel
theorem dL_law__890 : decode cL_law_ 890 = .ok (.iload 4, 2) := by decide +kernel
theorem dL_law__892 : decode cL_law_ 892 = .ok (.iconst 1, 1) := by decide +kernel
theorem dL_law__893 : decode cL_law_ 893 = .ok (.iadd, 1) := by decide +kernel
theorem dL_law__894 : decode cL_law_ 894 = .ok (.iaload, 1) := by decide +kernel
theorem dL_law__895 : decode cL_law_ 895 = .ok (.invokevirtual 169, 3) := by decide +kernel
theorem dL_law__898 : decode cL_law_ 898 = .ok (.istore 6, 2) := by decide +kernel
theorem dL_law__900 : decode cL_law_ 900 = .ok (.aload_n 2, 1) := by decide +kernel
theorem dL_law__901 : decode cL_law_ 901 = .ok (.invokevirtual 136, 3) := by decide +kernel
theorem dL_law__904 : decode cL_law_ 904 = .ok (.iload 5, 2) := by decide +kernel
theorem dL_law__906 : decode cL_law_ 906 = .ok (.if_icmp .eq 5, 3) := by decide +kernel
theorem dL_law__911 : decode cL_law_ 911 = .ok (.iload 5, 2) := by decide +kernel
theorem dL_law__913 : decode cL_law_ 913 = .ok (.ifCond .ne 22, 3) := by decide +kernel
theorem dL_law__916 : decode cL_law_ 916 = .ok (.aload_n 3, 1) := by decide +kernel
theorem dL_law__917 : decode cL_law_ 917 = .ok (.iconst 0, 1) := by decide +kernel
theorem dL_law__918 : decode cL_law_ 918 = .ok (.laload, 1) := by decide +kernel
theorem dL_law__919 : decode cL_law_ 919 = .ok (.iload 6, 2) := by decide +kernel
theorem dL_law__921 : decode cL_law_ 921 = .ok (.ifCond .eq 7, 3) := by decide +kernel
theorem dL_law__924 : decode cL_law_ 924 = .ok (.lconst 1, 1) := by decide +kernel
theorem dL_law__925 : decode cL_law_ 925 = .ok (.goto 4, 3) := by decide +kernel
theorem dL_law__928 : decode cL_law_ 928 = .ok (.lconst 0, 1) := by decide +kernel
theorem dL_law__929 : decode cL_law_ 929 = .ok (.lcmp, 1) := by decide +kernel
theorem dL_law__930 : decode cL_law_ 930 = .ok (.ifCond .eq 5, 3) := by decide +kernel
theorem dL_law__935 : decode cL_law_ 935 = .ok (.goto 1679, 3) := by decide +kernel
theorem dL_law__938 : decode cL_law_ 938 = .ok (.aload_n 1, 1) := by decide +kernel
theorem dL_law__939 : decode cL_law_ 939 = .ok (.aload_n 0, 1) := by decide +kernel
theorem dL_law__940 : decode cL_law_ 940 = .ok (.iload 4, 2) := by decide +kernel
theorem dL_law__942 : decode cL_law_ 942 = .ok (.iconst 1, 1) := by decide +kernel
theorem dL_law__943 : decode cL_law_ 943 = .ok (.iadd, 1) := by decide +kernel
theorem dL_law__944 : decode cL_law_ 944 = .ok (.iaload, 1) := by decide +kernel
theorem dL_law__945 : decode cL_law_ 945 = .ok (.aload_n 3, 1) := by decide +kernel
theorem dL_law__946 : decode cL_law_ 946 = .ok (.invokestatic 170, 3) := by decide +kernel
theorem dL_law__949 : decode cL_law_ 949 = .ok (.istore 5, 2) := by decide +kernel
theorem dL_law__951 : decode cL_law_ 951 = .ok (.aload_n 2, 1) := by decide +kernel
theorem dL_law__952 : decode cL_law_ 952 = .ok (.aload_n 0, 1) := by decide +kernel
theorem dL_law__953 : decode cL_law_ 953 = .ok (.iload 4, 2) := by decide +kernel
theorem dL_law__955 : decode cL_law_ 955 = .ok (.iconst 1, 1) := by decide +kernel
theorem dL_law__956 : decode cL_law_ 956 = .ok (.iadd, 1) := by decide +kernel
theorem dL_law__957 : decode cL_law_ 957 = .ok (.iaload, 1) := by decide +kernel
theorem dL_law__958 : decode cL_law_ 958 = .ok (.invokevirtual 172, 3) := by decide +kernel
theorem dL_law__961 : decode cL_law_ 961 = .ok (.istore 6, 2) := by decide +kernel
theorem dL_law__963 : decode cL_law_ 963 = .ok (.aload_n 2, 1) := by decide +kernel
theorem dL_law__964 : decode cL_law_ 964 = .ok (.invokevirtual 136, 3) := by decide +kernel
theorem dL_law__967 : decode cL_law_ 967 = .ok (.iload 5, 2) := by decide +kernel
theorem dL_law__969 : decode cL_law_ 969 = .ok (.if_icmp .eq 5, 3) := by decide +kernel
theorem dL_law__974 : decode cL_law_ 974 = .ok (.iload 5, 2) := by decide +kernel
theorem dL_law__976 : decode cL_law_ 976 = .ok (.ifCond .ne 15, 3) := by decide +kernel
theorem dL_law__979 : decode cL_law_ 979 = .ok (.aload_n 3, 1) := by decide +kernel
theorem dL_law__980 : decode cL_law_ 980 = .ok (.iconst 0, 1) := by decide +kernel
theorem dL_law__981 : decode cL_law_ 981 = .ok (.laload, 1) := by decide +kernel
theorem dL_law__982 : decode cL_law_ 982 = .ok (.iload 6, 2) := by decide +kernel
theorem dL_law__984 : decode cL_law_ 984 = .ok (.i2l, 1) := by decide +kernel
theorem dL_law__985 : decode cL_law_ 985 = .ok (.lcmp, 1) := by decide +kernel
theorem dL_law__986 : decode cL_law_ 986 = .ok (.ifCond .eq 5, 3) := by decide +kernel
theorem dL_law__991 : decode cL_law_ 991 = .ok (.goto 1623, 3) := by decide +kernel
theorem dL_law__994 : decode cL_law_ 994 = .ok (.aload_n 1, 1) := by decide +kernel
theorem dL_law__995 : decode cL_law_ 995 = .ok (.aload_n 0, 1) := by decide +kernel
theorem dL_law__996 : decode cL_law_ 996 = .ok (.iload 4, 2) := by decide +kernel
theorem dL_law__998 : decode cL_law_ 998 = .ok (.iconst 1, 1) := by decide +kernel
theorem dL_law__999 : decode cL_law_ 999 = .ok (.iadd, 1) := by decide +kernel
theorem dL_law__1000 : decode cL_law_ 1000 = .ok (.iaload, 1) := by decide +kernel
theorem dL_law__1001 : decode cL_law_ 1001 = .ok (.aload_n 0, 1) := by decide +kernel
theorem dL_law__1002 : decode cL_law_ 1002 = .ok (.iload 4, 2) := by decide +kernel
theorem dL_law__1004 : decode cL_law_ 1004 = .ok (.iconst 2, 1) := by decide +kernel
theorem dL_law__1005 : decode cL_law_ 1005 = .ok (.iadd, 1) := by decide +kernel
theorem dL_law__1006 : decode cL_law_ 1006 = .ok (.iaload, 1) := by decide +kernel
theorem dL_law__1007 : decode cL_law_ 1007 = .ok (.aload_n 3, 1) := by decide +kernel
theorem dL_law__1008 : decode cL_law_ 1008 = .ok (.invokestatic 173, 3) := by decide +kernel
theorem dL_law__1011 : decode cL_law_ 1011 = .ok (.istore 5, 2) := by decide +kernel
theorem dL_law__1013 : decode cL_law_ 1013 = .ok (.aload_n 2, 1) := by decide +kernel
theorem dL_law__1014 : decode cL_law_ 1014 = .ok (.aload_n 0, 1) := by decide +kernel
theorem dL_law__1015 : decode cL_law_ 1015 = .ok (.iload 4, 2) := by decide +kernel
