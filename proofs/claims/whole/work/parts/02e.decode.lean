theorem d_L_law_715 : decode code 715 = .ok (.iadd, 1) := by decide +kernel
theorem d_L_law_716 : decode code 716 = .ok (.iaload, 1) := by decide +kernel
theorem d_L_law_717 : decode code 717 = .ok (.invokevirtual 75, 3) := by decide +kernel
theorem d_L_law_720 : decode code 720 = .ok (.if_icmp .eq 363, 3) := by decide +kernel
theorem d_L_law_723 : decode code 723 = .ok (.iconst 0, 1) := by decide +kernel
theorem d_L_law_724 : decode code 724 = .ok (.ireturn, 1) := by decide +kernel
theorem d_L_law_725 : decode code 725 = .ok (.aload_n 1, 1) := by decide +kernel
theorem d_L_law_726 : decode code 726 = .ok (.aload_n 0, 1) := by decide +kernel
theorem d_L_law_727 : decode code 727 = .ok (.iload_n 3, 1) := by decide +kernel
theorem d_L_law_728 : decode code 728 = .ok (.iconst 1, 1) := by decide +kernel
theorem d_L_law_729 : decode code 729 = .ok (.iadd, 1) := by decide +kernel
theorem d_L_law_730 : decode code 730 = .ok (.iaload, 1) := by decide +kernel
theorem d_L_law_731 : decode code 731 = .ok (.aload_n 0, 1) := by decide +kernel
theorem d_L_law_732 : decode code 732 = .ok (.iload_n 3, 1) := by decide +kernel
theorem d_L_law_733 : decode code 733 = .ok (.iconst 2, 1) := by decide +kernel
theorem d_L_law_734 : decode code 734 = .ok (.iadd, 1) := by decide +kernel
theorem d_L_law_735 : decode code 735 = .ok (.iaload, 1) := by decide +kernel
theorem d_L_law_736 : decode code 736 = .ok (.aload_n 0, 1) := by decide +kernel
theorem d_L_law_737 : decode code 737 = .ok (.iload_n 3, 1) := by decide +kernel
theorem d_L_law_738 : decode code 738 = .ok (.iconst 3, 1) := by decide +kernel
theorem d_L_law_739 : decode code 739 = .ok (.iadd, 1) := by decide +kernel
theorem d_L_law_740 : decode code 740 = .ok (.iaload, 1) := by decide +kernel
theorem d_L_law_741 : decode code 741 = .ok (.invokevirtual 76, 3) := by decide +kernel
theorem d_L_law_744 : decode code 744 = .ok (.aload_n 2, 1) := by decide +kernel
theorem d_L_law_745 : decode code 745 = .ok (.aload_n 0, 1) := by decide +kernel
theorem d_L_law_746 : decode code 746 = .ok (.iload_n 3, 1) := by decide +kernel
theorem d_L_law_747 : decode code 747 = .ok (.iconst 1, 1) := by decide +kernel
theorem d_L_law_748 : decode code 748 = .ok (.iadd, 1) := by decide +kernel
theorem d_L_law_749 : decode code 749 = .ok (.iaload, 1) := by decide +kernel
theorem d_L_law_750 : decode code 750 = .ok (.aload_n 0, 1) := by decide +kernel
theorem d_L_law_751 : decode code 751 = .ok (.iload_n 3, 1) := by decide +kernel
theorem d_L_law_752 : decode code 752 = .ok (.iconst 2, 1) := by decide +kernel
theorem d_L_law_753 : decode code 753 = .ok (.iadd, 1) := by decide +kernel
theorem d_L_law_754 : decode code 754 = .ok (.iaload, 1) := by decide +kernel
theorem d_L_law_755 : decode code 755 = .ok (.aload_n 0, 1) := by decide +kernel
theorem d_L_law_756 : decode code 756 = .ok (.iload_n 3, 1) := by decide +kernel
theorem d_L_law_757 : decode code 757 = .ok (.iconst 3, 1) := by decide +kernel
theorem d_L_law_758 : decode code 758 = .ok (.iadd, 1) := by decide +kernel
theorem d_L_law_759 : decode code 759 = .ok (.iaload, 1) := by decide +kernel
theorem d_L_law_760 : decode code 760 = .ok (.invokevirtual 79, 3) := by decide +kernel
theorem d_L_law_763 : decode code 763 = .ok (.if_icmp .eq 320, 3) := by decide +kernel
theorem d_L_law_766 : decode code 766 = .ok (.iconst 0, 1) := by decide +kernel
theorem d_L_law_767 : decode code 767 = .ok (.ireturn, 1) := by decide +kernel
theorem d_L_law_768 : decode code 768 = .ok (.aload_n 1, 1) := by decide +kernel
theorem d_L_law_769 : decode code 769 = .ok (.aload_n 0, 1) := by decide +kernel
theorem d_L_law_770 : decode code 770 = .ok (.iload_n 3, 1) := by decide +kernel
theorem d_L_law_771 : decode code 771 = .ok (.iconst 1, 1) := by decide +kernel
theorem d_L_law_772 : decode code 772 = .ok (.iadd, 1) := by decide +kernel
theorem d_L_law_773 : decode code 773 = .ok (.iaload, 1) := by decide +kernel
theorem d_L_law_774 : decode code 774 = .ok (.aload_n 0, 1) := by decide +kernel
theorem d_L_law_775 : decode code 775 = .ok (.iload_n 3, 1) := by decide +kernel
theorem d_L_law_776 : decode code 776 = .ok (.iconst 2, 1) := by decide +kernel
theorem d_L_law_777 : decode code 777 = .ok (.iadd, 1) := by decide +kernel
theorem d_L_law_778 : decode code 778 = .ok (.iaload, 1) := by decide +kernel
theorem d_L_law_779 : decode code 779 = .ok (.aload_n 0, 1) := by decide +kernel
theorem d_L_law_780 : decode code 780 = .ok (.iload_n 3, 1) := by decide +kernel
theorem d_L_law_781 : decode code 781 = .ok (.iconst 3, 1) := by decide +kernel
theorem d_L_law_782 : decode code 782 = .ok (.iadd, 1) := by decide +kernel
theorem d_L_law_783 : decode code 783 = .ok (.iaload, 1) := by decide +kernel
theorem d_L_law_784 : decode code 784 = .ok (.invokevirtual 80, 3) := by decide +kernel
theorem d_L_law_787 : decode code 787 = .ok (.aload_n 2, 1) := by decide +kernel
theorem d_L_law_788 : decode code 788 = .ok (.aload_n 0, 1) := by decide +kernel
theorem d_L_law_789 : decode code 789 = .ok (.iload_n 3, 1) := by decide +kernel
theorem d_L_law_790 : decode code 790 = .ok (.iconst 1, 1) := by decide +kernel
theorem d_L_law_791 : decode code 791 = .ok (.iadd, 1) := by decide +kernel
theorem d_L_law_792 : decode code 792 = .ok (.iaload, 1) := by decide +kernel
theorem d_L_law_793 : decode code 793 = .ok (.aload_n 0, 1) := by decide +kernel
theorem d_L_law_794 : decode code 794 = .ok (.iload_n 3, 1) := by decide +kernel
theorem d_L_law_795 : decode code 795 = .ok (.iconst 2, 1) := by decide +kernel
theorem d_L_law_796 : decode code 796 = .ok (.iadd, 1) := by decide +kernel
theorem d_L_law_797 : decode code 797 = .ok (.iaload, 1) := by decide +kernel
theorem d_L_law_798 : decode code 798 = .ok (.aload_n 0, 1) := by decide +kernel
theorem d_L_law_799 : decode code 799 = .ok (.iload_n 3, 1) := by decide +kernel
theorem d_L_law_800 : decode code 800 = .ok (.iconst 3, 1) := by decide +kernel
theorem d_L_law_801 : decode code 801 = .ok (.iadd, 1) := by decide +kernel
theorem d_L_law_802 : decode code 802 = .ok (.iaload, 1) := by decide +kernel
theorem d_L_law_803 : decode code 803 = .ok (.invokevirtual 83, 3) := by decide +kernel
theorem d_L_law_806 : decode code 806 = .ok (.if_icmp .eq 277, 3) := by decide +kernel
theorem d_L_law_809 : decode code 809 = .ok (.iconst 0, 1) := by decide +kernel
theorem d_L_law_810 : decode code 810 = .ok (.ireturn, 1) := by decide +kernel
theorem d_L_law_811 : decode code 811 = .ok (.aload_n 1, 1) := by decide +kernel
theorem d_L_law_812 : decode code 812 = .ok (.aload_n 0, 1) := by decide +kernel
theorem d_L_law_813 : decode code 813 = .ok (.iload_n 3, 1) := by decide +kernel
theorem d_L_law_814 : decode code 814 = .ok (.iconst 1, 1) := by decide +kernel
theorem d_L_law_815 : decode code 815 = .ok (.iadd, 1) := by decide +kernel
theorem d_L_law_816 : decode code 816 = .ok (.iaload, 1) := by decide +kernel
theorem d_L_law_817 : decode code 817 = .ok (.invokevirtual 84, 3) := by decide +kernel
theorem d_L_law_820 : decode code 820 = .ok (.aload_n 2, 1) := by decide +kernel
theorem d_L_law_821 : decode code 821 = .ok (.aload_n 0, 1) := by decide +kernel
theorem d_L_law_822 : decode code 822 = .ok (.iload_n 3, 1) := by decide +kernel
theorem d_L_law_823 : decode code 823 = .ok (.iconst 1, 1) := by decide +kernel
theorem d_L_law_824 : decode code 824 = .ok (.iadd, 1) := by decide +kernel
theorem d_L_law_825 : decode code 825 = .ok (.iaload, 1) := by decide +kernel
theorem d_L_law_826 : decode code 826 = .ok (.invokevirtual 87, 3) := by decide +kernel
theorem d_L_law_829 : decode code 829 = .ok (.if_icmp .eq 254, 3) := by decide +kernel
theorem d_L_law_832 : decode code 832 = .ok (.iconst 0, 1) := by decide +kernel
theorem d_L_law_833 : decode code 833 = .ok (.ireturn, 1) := by decide +kernel
theorem d_L_law_834 : decode code 834 = .ok (.aload_n 1, 1) := by decide +kernel
theorem d_L_law_835 : decode code 835 = .ok (.aload_n 0, 1) := by decide +kernel
theorem d_L_law_836 : decode code 836 = .ok (.iload_n 3, 1) := by decide +kernel
theorem d_L_law_837 : decode code 837 = .ok (.iconst 1, 1) := by decide +kernel
theorem d_L_law_838 : decode code 838 = .ok (.iadd, 1) := by decide +kernel
theorem d_L_law_839 : decode code 839 = .ok (.iaload, 1) := by decide +kernel
theorem d_L_law_840 : decode code 840 = .ok (.aload_n 0, 1) := by decide +kernel
theorem d_L_law_841 : decode code 841 = .ok (.iload_n 3, 1) := by decide +kernel
theorem d_L_law_842 : decode code 842 = .ok (.iconst 2, 1) := by decide +kernel
theorem d_L_law_843 : decode code 843 = .ok (.iadd, 1) := by decide +kernel
theorem d_L_law_844 : decode code 844 = .ok (.iaload, 1) := by decide +kernel
theorem d_L_law_845 : decode code 845 = .ok (.aload_n 0, 1) := by decide +kernel
theorem d_L_law_846 : decode code 846 = .ok (.iload_n 3, 1) := by decide +kernel
theorem d_L_law_847 : decode code 847 = .ok (.iconst 3, 1) := by decide +kernel
theorem d_L_law_848 : decode code 848 = .ok (.iadd, 1) := by decide +kernel
theorem d_L_law_849 : decode code 849 = .ok (.iaload, 1) := by decide +kernel
theorem d_L_law_850 : decode code 850 = .ok (.aload_n 0, 1) := by decide +kernel
theorem d_L_law_851 : decode code 851 = .ok (.iload_n 3, 1) := by decide +kernel
theorem d_L_law_852 : decode code 852 = .ok (.iconst 4, 1) := by decide +kernel
theorem d_L_law_853 : decode code 853 = .ok (.iadd, 1) := by decide +kernel
theorem d_L_law_854 : decode code 854 = .ok (.iaload, 1) := by decide +kernel
theorem d_L_law_855 : decode code 855 = .ok (.invokevirtual 88, 3) := by decide +kernel
theorem d_L_law_858 : decode code 858 = .ok (.aload_n 2, 1) := by decide +kernel
theorem d_L_law_859 : decode code 859 = .ok (.aload_n 0, 1) := by decide +kernel
theorem d_L_law_860 : decode code 860 = .ok (.iload_n 3, 1) := by decide +kernel
theorem d_L_law_861 : decode code 861 = .ok (.iconst 1, 1) := by decide +kernel
theorem d_L_law_862 : decode code 862 = .ok (.iadd, 1) := by decide +kernel
theorem d_L_law_863 : decode code 863 = .ok (.iaload, 1) := by decide +kernel
theorem d_L_law_864 : decode code 864 = .ok (.aload_n 0, 1) := by decide +kernel
theorem d_L_law_865 : decode code 865 = .ok (.iload_n 3, 1) := by decide +kernel
theorem d_L_law_866 : decode code 866 = .ok (.iconst 2, 1) := by decide +kernel
theorem d_L_law_867 : decode code 867 = .ok (.iadd, 1) := by decide +kernel
theorem d_L_law_868 : decode code 868 = .ok (.iaload, 1) := by decide +kernel
theorem d_L_law_869 : decode code 869 = .ok (.aload_n 0, 1) := by decide +kernel
theorem d_L_law_870 : decode code 870 = .ok (.iload_n 3, 1) := by decide +kernel
theorem d_L_law_871 : decode code 871 = .ok (.iconst 3, 1) := by decide +kernel
theorem d_L_law_872 : decode code 872 = .ok (.iadd, 1) := by decide +kernel
theorem d_L_law_873 : decode code 873 = .ok (.iaload, 1) := by decide +kernel
theorem d_L_law_874 : decode code 874 = .ok (.aload_n 0, 1) := by decide +kernel
theorem d_L_law_875 : decode code 875 = .ok (.iload_n 3, 1) := by decide +kernel
theorem d_L_law_876 : decode code 876 = .ok (.iconst 4, 1) := by decide +kernel
theorem d_L_law_877 : decode code 877 = .ok (.iadd, 1) := by decide +kernel
theorem d_L_law_878 : decode code 878 = .ok (.iaload, 1) := by decide +kernel
theorem d_L_law_879 : decode code 879 = .ok (.invokevirtual 91, 3) := by decide +kernel
theorem d_L_law_882 : decode code 882 = .ok (.if_icmp .eq 201, 3) := by decide +kernel
theorem d_L_law_885 : decode code 885 = .ok (.iconst 0, 1) := by decide +kernel
theorem d_L_law_886 : decode code 886 = .ok (.ireturn, 1) := by decide +kernel
theorem d_L_law_887 : decode code 887 = .ok (.aload_n 1, 1) := by decide +kernel
theorem d_L_law_888 : decode code 888 = .ok (.aload_n 0, 1) := by decide +kernel
theorem d_L_law_889 : decode code 889 = .ok (.iload_n 3, 1) := by decide +kernel
theorem d_L_law_890 : decode code 890 = .ok (.iconst 1, 1) := by decide +kernel
theorem d_L_law_891 : decode code 891 = .ok (.iadd, 1) := by decide +kernel
theorem d_L_law_892 : decode code 892 = .ok (.iaload, 1) := by decide +kernel
theorem d_L_law_893 : decode code 893 = .ok (.aload_n 0, 1) := by decide +kernel
theorem d_L_law_894 : decode code 894 = .ok (.iload_n 3, 1) := by decide +kernel
theorem d_L_law_895 : decode code 895 = .ok (.iconst 2, 1) := by decide +kernel
theorem d_L_law_896 : decode code 896 = .ok (.iadd, 1) := by decide +kernel
theorem d_L_law_897 : decode code 897 = .ok (.iaload, 1) := by decide +kernel
theorem d_L_law_898 : decode code 898 = .ok (.aload_n 0, 1) := by decide +kernel
theorem d_L_law_899 : decode code 899 = .ok (.iload_n 3, 1) := by decide +kernel
theorem d_L_law_900 : decode code 900 = .ok (.iconst 3, 1) := by decide +kernel
theorem d_L_law_901 : decode code 901 = .ok (.iadd, 1) := by decide +kernel
theorem d_L_law_902 : decode code 902 = .ok (.iaload, 1) := by decide +kernel
theorem d_L_law_903 : decode code 903 = .ok (.invokevirtual 92, 3) := by decide +kernel
theorem d_L_law_906 : decode code 906 = .ok (.aload_n 2, 1) := by decide +kernel
theorem d_L_law_907 : decode code 907 = .ok (.aload_n 0, 1) := by decide +kernel
theorem d_L_law_908 : decode code 908 = .ok (.iload_n 3, 1) := by decide +kernel
theorem d_L_law_909 : decode code 909 = .ok (.iconst 1, 1) := by decide +kernel
theorem d_L_law_910 : decode code 910 = .ok (.iadd, 1) := by decide +kernel
theorem d_L_law_911 : decode code 911 = .ok (.iaload, 1) := by decide +kernel
theorem d_L_law_912 : decode code 912 = .ok (.aload_n 0, 1) := by decide +kernel
theorem d_L_law_913 : decode code 913 = .ok (.iload_n 3, 1) := by decide +kernel
theorem d_L_law_914 : decode code 914 = .ok (.iconst 2, 1) := by decide +kernel
theorem d_L_law_915 : decode code 915 = .ok (.iadd, 1) := by decide +kernel
theorem d_L_law_916 : decode code 916 = .ok (.iaload, 1) := by decide +kernel
theorem d_L_law_917 : decode code 917 = .ok (.aload_n 0, 1) := by decide +kernel
theorem d_L_law_918 : decode code 918 = .ok (.iload_n 3, 1) := by decide +kernel
theorem d_L_law_919 : decode code 919 = .ok (.iconst 3, 1) := by decide +kernel
theorem d_L_law_920 : decode code 920 = .ok (.iadd, 1) := by decide +kernel
theorem d_L_law_921 : decode code 921 = .ok (.iaload, 1) := by decide +kernel
theorem d_L_law_922 : decode code 922 = .ok (.invokevirtual 95, 3) := by decide +kernel
theorem d_L_law_925 : decode code 925 = .ok (.if_icmp .eq 158, 3) := by decide +kernel
theorem d_L_law_928 : decode code 928 = .ok (.iconst 0, 1) := by decide +kernel
theorem d_L_law_929 : decode code 929 = .ok (.ireturn, 1) := by decide +kernel
theorem d_L_law_930 : decode code 930 = .ok (.aload_n 1, 1) := by decide +kernel
theorem d_L_law_931 : decode code 931 = .ok (.aload_n 0, 1) := by decide +kernel
theorem d_L_law_932 : decode code 932 = .ok (.iload_n 3, 1) := by decide +kernel
theorem d_L_law_933 : decode code 933 = .ok (.iconst 1, 1) := by decide +kernel
theorem d_L_law_934 : decode code 934 = .ok (.iadd, 1) := by decide +kernel
theorem d_L_law_935 : decode code 935 = .ok (.iaload, 1) := by decide +kernel
theorem d_L_law_936 : decode code 936 = .ok (.aload_n 0, 1) := by decide +kernel
theorem d_L_law_937 : decode code 937 = .ok (.iload_n 3, 1) := by decide +kernel
theorem d_L_law_938 : decode code 938 = .ok (.iconst 2, 1) := by decide +kernel
theorem d_L_law_939 : decode code 939 = .ok (.iadd, 1) := by decide +kernel
theorem d_L_law_940 : decode code 940 = .ok (.iaload, 1) := by decide +kernel
theorem d_L_law_941 : decode code 941 = .ok (.aload_n 0, 1) := by decide +kernel
theorem d_L_law_942 : decode code 942 = .ok (.iload_n 3, 1) := by decide +kernel
theorem d_L_law_943 : decode code 943 = .ok (.iconst 3, 1) := by decide +kernel
theorem d_L_law_944 : decode code 944 = .ok (.iadd, 1) := by decide +kernel
theorem d_L_law_945 : decode code 945 = .ok (.iaload, 1) := by decide +kernel
theorem d_L_law_946 : decode code 946 = .ok (.aload_n 0, 1) := by decide +kernel
theorem d_L_law_947 : decode code 947 = .ok (.iload_n 3, 1) := by decide +kernel
theorem d_L_law_948 : decode code 948 = .ok (.iconst 4, 1) := by decide +kernel
theorem d_L_law_949 : decode code 949 = .ok (.iadd, 1) := by decide +kernel
theorem d_L_law_950 : decode code 950 = .ok (.iaload, 1) := by decide +kernel
theorem d_L_law_951 : decode code 951 = .ok (.aload_n 0, 1) := by decide +kernel
theorem d_L_law_952 : decode code 952 = .ok (.iload_n 3, 1) := by decide +kernel
theorem d_L_law_953 : decode code 953 = .ok (.iconst 5, 1) := by decide +kernel
theorem d_L_law_954 : decode code 954 = .ok (.iadd, 1) := by decide +kernel
theorem d_L_law_955 : decode code 955 = .ok (.iaload, 1) := by decide +kernel
theorem d_L_law_956 : decode code 956 = .ok (.invokevirtual 96, 3) := by decide +kernel
theorem d_L_law_959 : decode code 959 = .ok (.aload_n 2, 1) := by decide +kernel
theorem d_L_law_960 : decode code 960 = .ok (.aload_n 0, 1) := by decide +kernel
theorem d_L_law_961 : decode code 961 = .ok (.iload_n 3, 1) := by decide +kernel
theorem d_L_law_962 : decode code 962 = .ok (.iconst 1, 1) := by decide +kernel
theorem d_L_law_963 : decode code 963 = .ok (.iadd, 1) := by decide +kernel
theorem d_L_law_964 : decode code 964 = .ok (.iaload, 1) := by decide +kernel
theorem d_L_law_965 : decode code 965 = .ok (.aload_n 0, 1) := by decide +kernel
theorem d_L_law_966 : decode code 966 = .ok (.iload_n 3, 1) := by decide +kernel
theorem d_L_law_967 : decode code 967 = .ok (.iconst 2, 1) := by decide +kernel
theorem d_L_law_968 : decode code 968 = .ok (.iadd, 1) := by decide +kernel
theorem d_L_law_969 : decode code 969 = .ok (.iaload, 1) := by decide +kernel
theorem d_L_law_970 : decode code 970 = .ok (.aload_n 0, 1) := by decide +kernel
theorem d_L_law_971 : decode code 971 = .ok (.iload_n 3, 1) := by decide +kernel
theorem d_L_law_972 : decode code 972 = .ok (.iconst 3, 1) := by decide +kernel
theorem d_L_law_973 : decode code 973 = .ok (.iadd, 1) := by decide +kernel
theorem d_L_law_974 : decode code 974 = .ok (.iaload, 1) := by decide +kernel
theorem d_L_law_975 : decode code 975 = .ok (.aload_n 0, 1) := by decide +kernel
theorem d_L_law_976 : decode code 976 = .ok (.iload_n 3, 1) := by decide +kernel
theorem d_L_law_977 : decode code 977 = .ok (.iconst 4, 1) := by decide +kernel
theorem d_L_law_978 : decode code 978 = .ok (.iadd, 1) := by decide +kernel
theorem d_L_law_979 : decode code 979 = .ok (.iaload, 1) := by decide +kernel
theorem d_L_law_980 : decode code 980 = .ok (.aload_n 0, 1) := by decide +kernel
theorem d_L_law_981 : decode code 981 = .ok (.iload_n 3, 1) := by decide +kernel
theorem d_L_law_982 : decode code 982 = .ok (.iconst 5, 1) := by decide +kernel
theorem d_L_law_983 : decode code 983 = .ok (.iadd, 1) := by decide +kernel
theorem d_L_law_984 : decode code 984 = .ok (.iaload, 1) := by decide +kernel
theorem d_L_law_985 : decode code 985 = .ok (.invokevirtual 99, 3) := by decide +kernel
theorem d_L_law_988 : decode code 988 = .ok (.if_icmp .eq 95, 3) := by decide +kernel
theorem d_L_law_991 : decode code 991 = .ok (.iconst 0, 1) := by decide +kernel
theorem d_L_law_992 : decode code 992 = .ok (.ireturn, 1) := by decide +kernel
theorem d_L_law_993 : decode code 993 = .ok (.aload_n 1, 1) := by decide +kernel
theorem d_L_law_994 : decode code 994 = .ok (.aload_n 0, 1) := by decide +kernel
theorem d_L_law_995 : decode code 995 = .ok (.iload_n 3, 1) := by decide +kernel
theorem d_L_law_996 : decode code 996 = .ok (.iconst 1, 1) := by decide +kernel
theorem d_L_law_997 : decode code 997 = .ok (.iadd, 1) := by decide +kernel
theorem d_L_law_998 : decode code 998 = .ok (.iaload, 1) := by decide +kernel
theorem d_L_law_999 : decode code 999 = .ok (.aload_n 0, 1) := by decide +kernel
theorem d_L_law_1000 : decode code 1000 = .ok (.iload_n 3, 1) := by decide +kernel
theorem d_L_law_1001 : decode code 1001 = .ok (.iconst 2, 1) := by decide +kernel
theorem d_L_law_1002 : decode code 1002 = .ok (.iadd, 1) := by decide +kernel
theorem d_L_law_1003 : decode code 1003 = .ok (.iaload, 1) := by decide +kernel
theorem d_L_law_1004 : decode code 1004 = .ok (.aload_n 0, 1) := by decide +kernel
theorem d_L_law_1005 : decode code 1005 = .ok (.iload_n 3, 1) := by decide +kernel
theorem d_L_law_1006 : decode code 1006 = .ok (.iconst 3, 1) := by decide +kernel
theorem d_L_law_1007 : decode code 1007 = .ok (.iadd, 1) := by decide +kernel
theorem d_L_law_1008 : decode code 1008 = .ok (.iaload, 1) := by decide +kernel
theorem d_L_law_1009 : decode code 1009 = .ok (.aload_n 0, 1) := by decide +kernel
theorem d_L_law_1010 : decode code 1010 = .ok (.iload_n 3, 1) := by decide +kernel
theorem d_L_law_1011 : decode code 1011 = .ok (.iconst 4, 1) := by decide +kernel
theorem d_L_law_1012 : decode code 1012 = .ok (.iadd, 1) := by decide +kernel
theorem d_L_law_1013 : decode code 1013 = .ok (.iaload, 1) := by decide +kernel
theorem d_L_law_1014 : decode code 1014 = .ok (.invokevirtual 100, 3) := by decide +kernel
theorem d_L_law_1017 : decode code 1017 = .ok (.aload_n 2, 1) := by decide +kernel
theorem d_L_law_1018 : decode code 1018 = .ok (.aload_n 0, 1) := by decide +kernel
theorem d_L_law_1019 : decode code 1019 = .ok (.iload_n 3, 1) := by decide +kernel
theorem d_L_law_1020 : decode code 1020 = .ok (.iconst 1, 1) := by decide +kernel
theorem d_L_law_1021 : decode code 1021 = .ok (.iadd, 1) := by decide +kernel
theorem d_L_law_1022 : decode code 1022 = .ok (.iaload, 1) := by decide +kernel
theorem d_L_law_1023 : decode code 1023 = .ok (.aload_n 0, 1) := by decide +kernel
theorem d_L_law_1024 : decode code 1024 = .ok (.iload_n 3, 1) := by decide +kernel
theorem d_L_law_1025 : decode code 1025 = .ok (.iconst 2, 1) := by decide +kernel
theorem d_L_law_1026 : decode code 1026 = .ok (.iadd, 1) := by decide +kernel
theorem d_L_law_1027 : decode code 1027 = .ok (.iaload, 1) := by decide +kernel
theorem d_L_law_1028 : decode code 1028 = .ok (.aload_n 0, 1) := by decide +kernel
theorem d_L_law_1029 : decode code 1029 = .ok (.iload_n 3, 1) := by decide +kernel
theorem d_L_law_1030 : decode code 1030 = .ok (.iconst 3, 1) := by decide +kernel
theorem d_L_law_1031 : decode code 1031 = .ok (.iadd, 1) := by decide +kernel
theorem d_L_law_1032 : decode code 1032 = .ok (.iaload, 1) := by decide +kernel
theorem d_L_law_1033 : decode code 1033 = .ok (.aload_n 0, 1) := by decide +kernel
theorem d_L_law_1034 : decode code 1034 = .ok (.iload_n 3, 1) := by decide +kernel
theorem d_L_law_1035 : decode code 1035 = .ok (.iconst 4, 1) := by decide +kernel
theorem d_L_law_1036 : decode code 1036 = .ok (.iadd, 1) := by decide +kernel
theorem d_L_law_1037 : decode code 1037 = .ok (.iaload, 1) := by decide +kernel
theorem d_L_law_1038 : decode code 1038 = .ok (.invokevirtual 103, 3) := by decide +kernel
theorem d_L_law_1041 : decode code 1041 = .ok (.if_icmp .eq 42, 3) := by decide +kernel
theorem d_L_law_1044 : decode code 1044 = .ok (.iconst 0, 1) := by decide +kernel
theorem d_L_law_1045 : decode code 1045 = .ok (.ireturn, 1) := by decide +kernel
theorem d_L_law_1046 : decode code 1046 = .ok (.aload_n 1, 1) := by decide +kernel
theorem d_L_law_1047 : decode code 1047 = .ok (.aload_n 0, 1) := by decide +kernel
theorem d_L_law_1048 : decode code 1048 = .ok (.iload_n 3, 1) := by decide +kernel
theorem d_L_law_1049 : decode code 1049 = .ok (.iconst 1, 1) := by decide +kernel
theorem d_L_law_1050 : decode code 1050 = .ok (.iadd, 1) := by decide +kernel
theorem d_L_law_1051 : decode code 1051 = .ok (.iaload, 1) := by decide +kernel
theorem d_L_law_1052 : decode code 1052 = .ok (.invokevirtual 104, 3) := by decide +kernel
theorem d_L_law_1055 : decode code 1055 = .ok (.aload_n 2, 1) := by decide +kernel
theorem d_L_law_1056 : decode code 1056 = .ok (.aload_n 0, 1) := by decide +kernel
theorem d_L_law_1057 : decode code 1057 = .ok (.iload_n 3, 1) := by decide +kernel
theorem d_L_law_1058 : decode code 1058 = .ok (.iconst 1, 1) := by decide +kernel
theorem d_L_law_1059 : decode code 1059 = .ok (.iadd, 1) := by decide +kernel
theorem d_L_law_1060 : decode code 1060 = .ok (.iaload, 1) := by decide +kernel
theorem d_L_law_1061 : decode code 1061 = .ok (.invokevirtual 107, 3) := by decide +kernel
theorem d_L_law_1064 : decode code 1064 = .ok (.if_icmp .eq 19, 3) := by decide +kernel
theorem d_L_law_1067 : decode code 1067 = .ok (.iconst 0, 1) := by decide +kernel
theorem d_L_law_1068 : decode code 1068 = .ok (.ireturn, 1) := by decide +kernel
theorem d_L_law_1069 : decode code 1069 = .ok (.aload_n 1, 1) := by decide +kernel
theorem d_L_law_1070 : decode code 1070 = .ok (.invokevirtual 108, 3) := by decide +kernel
theorem d_L_law_1073 : decode code 1073 = .ok (.aload_n 2, 1) := by decide +kernel
theorem d_L_law_1074 : decode code 1074 = .ok (.invokevirtual 112, 3) := by decide +kernel
theorem d_L_law_1077 : decode code 1077 = .ok (.lcmp, 1) := by decide +kernel
theorem d_L_law_1078 : decode code 1078 = .ok (.ifCond .eq 5, 3) := by decide +kernel
theorem d_L_law_1081 : decode code 1081 = .ok (.iconst 0, 1) := by decide +kernel
theorem d_L_law_1082 : decode code 1082 = .ok (.ireturn, 1) := by decide +kernel
theorem d_L_law_1083 : decode code 1083 = .ok (.iinc 3 7, 3) := by decide +kernel
theorem d_L_law_1086 : decode code 1086 = .ok (.goto (-1068), 3) := by decide +kernel
theorem d_L_law_1089 : decode code 1089 = .ok (.iconst 1, 1) := by decide +kernel
theorem d_L_law_1090 : decode code 1090 = .ok (.ireturn, 1) := by decide +kernel
