theorem ml_L_19 : MLV RL 19 RX10 yX10_feed cX10_feed 7 (some .int) 5 := ⟨⟨gw_t 431 (by decide +kernel) rfl, gw_t 432 (by decide +kernel) rfl, gw_t 433 (by decide +kernel) rfl, gw_t 1 (by decide +kernel) rfl, gw_t 434 (by decide +kernel) rfl⟩, by decide, by decide, by decide +kernel⟩
theorem ml_L_23 : MLV RL 23 RX12 yX12_feed cX12_feed 8 (some .int) 5 := ⟨⟨gw_t 1298 (by decide +kernel) rfl, gw_t 1299 (by decide +kernel) rfl, gw_t 1300 (by decide +kernel) rfl, gw_t 11 (by decide +kernel) rfl, gw_t 1301 (by decide +kernel) rfl⟩, by decide, by decide, by decide +kernel⟩
theorem ml_L_28 : MLV RL 28 RX10 yX10_fault cX10_fault 1 (some .int) 0 := ⟨⟨gw_t 805 (by decide +kernel) rfl, gw_t 806 (by decide +kernel) rfl, gw_t 807 (by decide +kernel) rfl, gw_t 1 (by decide +kernel) rfl, gw_t 808 (by decide +kernel) rfl⟩, by decide, by decide, by decide +kernel⟩
theorem ml_L_32 : MLV RL 32 RX12 yX12_fault cX12_fault 1 (some .int) 0 := ⟨⟨gw_t 1635 (by decide +kernel) rfl, gw_t 1636 (by decide +kernel) rfl, gw_t 1637 (by decide +kernel) rfl, gw_t 11 (by decide +kernel) rfl, gw_t 1638 (by decide +kernel) rfl⟩, by decide, by decide, by decide +kernel⟩
theorem ml_L_33 : MLV RL 33 RX10 yX10_where cX10_where 1 (some .int) 0 := ⟨⟨gw_t 809 (by decide +kernel) rfl, gw_t 810 (by decide +kernel) rfl, gw_t 811 (by decide +kernel) rfl, gw_t 1 (by decide +kernel) rfl, gw_t 812 (by decide +kernel) rfl⟩, by decide, by decide, by decide +kernel⟩
theorem ml_L_36 : MLV RL 36 RX12 yX12_where cX12_where 1 (some .int) 0 := ⟨⟨gw_t 1639 (by decide +kernel) rfl, gw_t 1640 (by decide +kernel) rfl, gw_t 1641 (by decide +kernel) rfl, gw_t 11 (by decide +kernel) rfl, gw_t 1642 (by decide +kernel) rfl⟩, by decide, by decide, by decide +kernel⟩
theorem ml_L_37 : MLV RL 37 RX10 yX10_far cX10_far 3 (some .int) 2 := ⟨⟨gw_t 813 (by decide +kernel) rfl, gw_t 814 (by decide +kernel) rfl, gw_t 815 (by decide +kernel) rfl, gw_t 1 (by decide +kernel) rfl, gw_t 816 (by decide +kernel) rfl⟩, by decide, by decide, by decide +kernel⟩
theorem ml_L_41 : MLV RL 41 RX12 yX12_far cX12_far 3 (some .int) 2 := ⟨⟨gw_t 1643 (by decide +kernel) rfl, gw_t 1644 (by decide +kernel) rfl, gw_t 1645 (by decide +kernel) rfl, gw_t 11 (by decide +kernel) rfl, gw_t 1646 (by decide +kernel) rfl⟩, by decide, by decide, by decide +kernel⟩
theorem ml_L_42 : MLV RL 42 RX10 yX10_room cX10_room 3 (some .int) 2 := ⟨⟨gw_t 825 (by decide +kernel) rfl, gw_t 826 (by decide +kernel) rfl, gw_t 827 (by decide +kernel) rfl, gw_t 1 (by decide +kernel) rfl, gw_t 828 (by decide +kernel) rfl⟩, by decide, by decide, by decide +kernel⟩
theorem ml_L_45 : MLV RL 45 RX12 yX12_room cX12_room 3 (some .int) 2 := ⟨⟨gw_t 1651 (by decide +kernel) rfl, gw_t 1652 (by decide +kernel) rfl, gw_t 1653 (by decide +kernel) rfl, gw_t 11 (by decide +kernel) rfl, gw_t 1654 (by decide +kernel) rfl⟩, by decide, by decide, by decide +kernel⟩
theorem ml_L_46 : MLV RL 46 RX10 yX10_door cX10_door 3 (some .int) 2 := ⟨⟨gw_t 830 (by decide +kernel) rfl, gw_t 831 (by decide +kernel) rfl, gw_t 832 (by decide +kernel) rfl, gw_t 1 (by decide +kernel) rfl, gw_t 833 (by decide +kernel) rfl⟩, by decide, by decide, by decide +kernel⟩
theorem ml_L_49 : MLV RL 49 RX12 yX12_door cX12_door 4 (some .int) 2 := ⟨⟨gw_t 1655 (by decide +kernel) rfl, gw_t 1656 (by decide +kernel) rfl, gw_t 1657 (by decide +kernel) rfl, gw_t 11 (by decide +kernel) rfl, gw_t 1658 (by decide +kernel) rfl⟩, by decide, by decide, by decide +kernel⟩
theorem ml_L_50 : MLV RL 50 RX10 yX10_dream cX10_dream 4 (some .int) 3 := ⟨⟨gw_t 835 (by decide +kernel) rfl, gw_t 836 (by decide +kernel) rfl, gw_t 837 (by decide +kernel) rfl, gw_t 1 (by decide +kernel) rfl, gw_t 838 (by decide +kernel) rfl⟩, by decide, by decide, by decide +kernel⟩
theorem ml_L_54 : MLV RL 54 RX12 yX12_dream cX12_dream 5 (some .int) 3 := ⟨⟨gw_t 1659 (by decide +kernel) rfl, gw_t 1660 (by decide +kernel) rfl, gw_t 1661 (by decide +kernel) rfl, gw_t 11 (by decide +kernel) rfl, gw_t 1662 (by decide +kernel) rfl⟩, by decide, by decide, by decide +kernel⟩
theorem ml_L_55 : MLV RL 55 RX10 yX10_nightfall cX10_nightfall 2 (some .boolean) 1 := ⟨⟨gw_t 841 (by decide +kernel) rfl, gw_t 842 (by decide +kernel) rfl, gw_t 843 (by decide +kernel) rfl, gw_t 1 (by decide +kernel) rfl, gw_t 844 (by decide +kernel) rfl⟩, by decide, by decide, by decide +kernel⟩
theorem ml_L_59 : MLV RL 59 RX12 yX12_nightfall cX12_nightfall 3 (some .boolean) 1 := ⟨⟨gw_t 1667 (by decide +kernel) rfl, gw_t 1668 (by decide +kernel) rfl, gw_t 1669 (by decide +kernel) rfl, gw_t 11 (by decide +kernel) rfl, gw_t 1670 (by decide +kernel) rfl⟩, by decide, by decide, by decide +kernel⟩
theorem ml_L_60 : MLV RL 60 RX10 yX10_dreams cX10_dreams 3 (some .boolean) 2 := ⟨⟨gw_t 865 (by decide +kernel) rfl, gw_t 866 (by decide +kernel) rfl, gw_t 867 (by decide +kernel) rfl, gw_t 1 (by decide +kernel) rfl, gw_t 868 (by decide +kernel) rfl⟩, by decide, by decide, by decide +kernel⟩
theorem ml_L_64 : MLV RL 64 RX12 yX12_dreams cX12_dreams 3 (some .boolean) 2 := ⟨⟨gw_t 1687 (by decide +kernel) rfl, gw_t 1688 (by decide +kernel) rfl, gw_t 1689 (by decide +kernel) rfl, gw_t 11 (by decide +kernel) rfl, gw_t 1690 (by decide +kernel) rfl⟩, by decide, by decide, by decide +kernel⟩
theorem ml_L_65 : MLV RL 65 RX10 yX10_minutes cX10_minutes 3 (some .int) 1 := ⟨⟨gw_t 873 (by decide +kernel) rfl, gw_t 874 (by decide +kernel) rfl, gw_t 875 (by decide +kernel) rfl, gw_t 1 (by decide +kernel) rfl, gw_t 876 (by decide +kernel) rfl⟩, by decide, by decide, by decide +kernel⟩
theorem ml_L_68 : MLV RL 68 RX12 yX12_minutes cX12_minutes 2 (some .int) 1 := ⟨⟨gw_t 1695 (by decide +kernel) rfl, gw_t 1696 (by decide +kernel) rfl, gw_t 1697 (by decide +kernel) rfl, gw_t 11 (by decide +kernel) rfl, gw_t 1698 (by decide +kernel) rfl⟩, by decide, by decide, by decide +kernel⟩
theorem ml_L_69 : MLV RL 69 RX10 yX10_morning cX10_morning 1 (some .int) 0 := ⟨⟨gw_t 881 (by decide +kernel) rfl, gw_t 882 (by decide +kernel) rfl, gw_t 883 (by decide +kernel) rfl, gw_t 1 (by decide +kernel) rfl, gw_t 884 (by decide +kernel) rfl⟩, by decide, by decide, by decide +kernel⟩
theorem ml_L_72 : MLV RL 72 RX12 yX12_morning cX12_morning 1 (some .int) 0 := ⟨⟨gw_t 1739 (by decide +kernel) rfl, gw_t 1740 (by decide +kernel) rfl, gw_t 1741 (by decide +kernel) rfl, gw_t 11 (by decide +kernel) rfl, gw_t 1742 (by decide +kernel) rfl⟩, by decide, by decide, by decide +kernel⟩
theorem ml_L_73 : MLV RL 73 RX10 yX10_sleeper cX10_sleeper 3 (some .int) 2 := ⟨⟨gw_t 885 (by decide +kernel) rfl, gw_t 886 (by decide +kernel) rfl, gw_t 887 (by decide +kernel) rfl, gw_t 1 (by decide +kernel) rfl, gw_t 888 (by decide +kernel) rfl⟩, by decide, by decide, by decide +kernel⟩
theorem ml_L_76 : MLV RL 76 RX12 yX12_sleeper cX12_sleeper 3 (some .int) 2 := ⟨⟨gw_t 1743 (by decide +kernel) rfl, gw_t 1744 (by decide +kernel) rfl, gw_t 1745 (by decide +kernel) rfl, gw_t 11 (by decide +kernel) rfl, gw_t 1746 (by decide +kernel) rfl⟩, by decide, by decide, by decide +kernel⟩
theorem ml_L_77 : MLV RL 77 RX10 yX10_thing cX10_thing 3 (some .int) 2 := ⟨⟨gw_t 889 (by decide +kernel) rfl, gw_t 890 (by decide +kernel) rfl, gw_t 891 (by decide +kernel) rfl, gw_t 1 (by decide +kernel) rfl, gw_t 892 (by decide +kernel) rfl⟩, by decide, by decide, by decide +kernel⟩
theorem ml_L_80 : MLV RL 80 RX12 yX12_thing cX12_thing 3 (some .int) 2 := ⟨⟨gw_t 1747 (by decide +kernel) rfl, gw_t 1748 (by decide +kernel) rfl, gw_t 1749 (by decide +kernel) rfl, gw_t 11 (by decide +kernel) rfl, gw_t 1750 (by decide +kernel) rfl⟩, by decide, by decide, by decide +kernel⟩
theorem ml_L_81 : MLV RL 81 RX10 yX10_doorway cX10_doorway 3 (some .int) 2 := ⟨⟨gw_t 898 (by decide +kernel) rfl, gw_t 899 (by decide +kernel) rfl, gw_t 900 (by decide +kernel) rfl, gw_t 1 (by decide +kernel) rfl, gw_t 901 (by decide +kernel) rfl⟩, by decide, by decide, by decide +kernel⟩
theorem ml_L_84 : MLV RL 84 RX12 yX12_doorway cX12_doorway 3 (some .int) 2 := ⟨⟨gw_t 1755 (by decide +kernel) rfl, gw_t 1756 (by decide +kernel) rfl, gw_t 1757 (by decide +kernel) rfl, gw_t 11 (by decide +kernel) rfl, gw_t 1758 (by decide +kernel) rfl⟩, by decide, by decide, by decide +kernel⟩
theorem ml_L_85 : MLV RL 85 RX10 yX10_heard cX10_heard 3 (some .int) 2 := ⟨⟨gw_t 906 (by decide +kernel) rfl, gw_t 907 (by decide +kernel) rfl, gw_t 908 (by decide +kernel) rfl, gw_t 1 (by decide +kernel) rfl, gw_t 909 (by decide +kernel) rfl⟩, by decide, by decide, by decide +kernel⟩
theorem ml_L_88 : MLV RL 88 RX12 yX12_heard cX12_heard 3 (some .int) 2 := ⟨⟨gw_t 1763 (by decide +kernel) rfl, gw_t 1764 (by decide +kernel) rfl, gw_t 1765 (by decide +kernel) rfl, gw_t 11 (by decide +kernel) rfl, gw_t 1766 (by decide +kernel) rfl⟩, by decide, by decide, by decide +kernel⟩
theorem ml_L_89 : MLV RL 89 RX10 yX10_creaks cX10_creaks 2 (some .int) 1 := ⟨⟨gw_t 915 (by decide +kernel) rfl, gw_t 916 (by decide +kernel) rfl, gw_t 917 (by decide +kernel) rfl, gw_t 1 (by decide +kernel) rfl, gw_t 918 (by decide +kernel) rfl⟩, by decide, by decide, by decide +kernel⟩
theorem ml_L_92 : MLV RL 92 RX12 yX12_creaks cX12_creaks 4 (some .int) 1 := ⟨⟨gw_t 1775 (by decide +kernel) rfl, gw_t 1776 (by decide +kernel) rfl, gw_t 1777 (by decide +kernel) rfl, gw_t 11 (by decide +kernel) rfl, gw_t 1778 (by decide +kernel) rfl⟩, by decide, by decide, by decide +kernel⟩
theorem ml_L_93 : MLV RL 93 RX10 yX10_called cX10_called 5 (some .int) 3 := ⟨⟨gw_t 925 (by decide +kernel) rfl, gw_t 926 (by decide +kernel) rfl, gw_t 927 (by decide +kernel) rfl, gw_t 1 (by decide +kernel) rfl, gw_t 928 (by decide +kernel) rfl⟩, by decide, by decide, by decide +kernel⟩
theorem ml_L_96 : MLV RL 96 RX12 yX12_called cX12_called 5 (some .int) 3 := ⟨⟨gw_t 1779 (by decide +kernel) rfl, gw_t 1780 (by decide +kernel) rfl, gw_t 1781 (by decide +kernel) rfl, gw_t 11 (by decide +kernel) rfl, gw_t 1782 (by decide +kernel) rfl⟩, by decide, by decide, by decide +kernel⟩
theorem ml_L_100 : MLV RL 100 RX12 yX12_mark cX12_mark 2 (some .int) 0 := ⟨⟨gw_t 1787 (by decide +kernel) rfl, gw_t 1788 (by decide +kernel) rfl, gw_t 1789 (by decide +kernel) rfl, gw_t 11 (by decide +kernel) rfl, gw_t 1790 (by decide +kernel) rfl⟩, by decide, by decide, by decide +kernel⟩
theorem ml_L_97 : MLV RL 97 RX10 yX10_mark cX10_mark 1 (some .int) 0 := ⟨⟨gw_t 929 (by decide +kernel) rfl, gw_t 930 (by decide +kernel) rfl, gw_t 931 (by decide +kernel) rfl, gw_t 1 (by decide +kernel) rfl, gw_t 932 (by decide +kernel) rfl⟩, by decide, by decide, by decide +kernel⟩
theorem ml_L_101 : MLV RL 101 RX10 yX10_back cX10_back 2 (some .boolean) 1 := ⟨⟨gw_t 942 (by decide +kernel) rfl, gw_t 943 (by decide +kernel) rfl, gw_t 944 (by decide +kernel) rfl, gw_t 1 (by decide +kernel) rfl, gw_t 945 (by decide +kernel) rfl⟩, by decide, by decide, by decide +kernel⟩
theorem ml_L_104 : MLV RL 104 RX12 yX12_back cX12_back 3 (some .boolean) 1 := ⟨⟨gw_t 1791 (by decide +kernel) rfl, gw_t 1792 (by decide +kernel) rfl, gw_t 1793 (by decide +kernel) rfl, gw_t 11 (by decide +kernel) rfl, gw_t 1794 (by decide +kernel) rfl⟩, by decide, by decide, by decide +kernel⟩
theorem ml_L_105 : MLV RL 105 RX10 yX10_noteHeard cX10_noteHeard 5 (some .int) 4 := ⟨⟨gw_t 946 (by decide +kernel) rfl, gw_t 947 (by decide +kernel) rfl, gw_t 948 (by decide +kernel) rfl, gw_t 1 (by decide +kernel) rfl, gw_t 949 (by decide +kernel) rfl⟩, by decide, by decide, by decide +kernel⟩
theorem ml_L_109 : MLV RL 109 RX12 yX12_noteHeard cX12_noteHeard 5 (some .int) 4 := ⟨⟨gw_t 1795 (by decide +kernel) rfl, gw_t 1796 (by decide +kernel) rfl, gw_t 1797 (by decide +kernel) rfl, gw_t 11 (by decide +kernel) rfl, gw_t 1798 (by decide +kernel) rfl⟩, by decide, by decide, by decide +kernel⟩
theorem ml_L_110 : MLV RL 110 RX10 yX10_noteThing cX10_noteThing 4 (some .int) 3 := ⟨⟨gw_t 961 (by decide +kernel) rfl, gw_t 962 (by decide +kernel) rfl, gw_t 963 (by decide +kernel) rfl, gw_t 1 (by decide +kernel) rfl, gw_t 964 (by decide +kernel) rfl⟩, by decide, by decide, by decide +kernel⟩
theorem ml_L_113 : MLV RL 113 RX12 yX12_noteThing cX12_noteThing 4 (some .int) 3 := ⟨⟨gw_t 1806 (by decide +kernel) rfl, gw_t 1807 (by decide +kernel) rfl, gw_t 1808 (by decide +kernel) rfl, gw_t 11 (by decide +kernel) rfl, gw_t 1809 (by decide +kernel) rfl⟩, by decide, by decide, by decide +kernel⟩
theorem ml_L_114 : MLV RL 114 RX10 yX10_noteDoor cX10_noteDoor 4 (some .int) 3 := ⟨⟨gw_t 965 (by decide +kernel) rfl, gw_t 966 (by decide +kernel) rfl, gw_t 967 (by decide +kernel) rfl, gw_t 1 (by decide +kernel) rfl, gw_t 968 (by decide +kernel) rfl⟩, by decide, by decide, by decide +kernel⟩
theorem ml_L_117 : MLV RL 117 RX12 yX12_noteDoor cX12_noteDoor 4 (some .int) 3 := ⟨⟨gw_t 1810 (by decide +kernel) rfl, gw_t 1811 (by decide +kernel) rfl, gw_t 1812 (by decide +kernel) rfl, gw_t 11 (by decide +kernel) rfl, gw_t 1813 (by decide +kernel) rfl⟩, by decide, by decide, by decide +kernel⟩
theorem ml_L_118 : MLV RL 118 RX10 yX10_strike cX10_strike 1 (some .boolean) 0 := ⟨⟨gw_t 969 (by decide +kernel) rfl, gw_t 970 (by decide +kernel) rfl, gw_t 971 (by decide +kernel) rfl, gw_t 1 (by decide +kernel) rfl, gw_t 972 (by decide +kernel) rfl⟩, by decide, by decide, by decide +kernel⟩
theorem ml_L_122 : MLV RL 122 RX12 yX12_strike cX12_strike 1 (some .boolean) 0 := ⟨⟨gw_t 1814 (by decide +kernel) rfl, gw_t 1815 (by decide +kernel) rfl, gw_t 1816 (by decide +kernel) rfl, gw_t 11 (by decide +kernel) rfl, gw_t 1817 (by decide +kernel) rfl⟩, by decide, by decide, by decide +kernel⟩
theorem ml_L_123 : MLV RL 123 RX10 yX10_fits cX10_fits 2 (some .int) 1 := ⟨⟨gw_t 973 (by decide +kernel) rfl, gw_t 974 (by decide +kernel) rfl, gw_t 975 (by decide +kernel) rfl, gw_t 1 (by decide +kernel) rfl, gw_t 976 (by decide +kernel) rfl⟩, by decide, by decide, by decide +kernel⟩
theorem ml_L_126 : MLV RL 126 RX12 yX12_fits cX12_fits 3 (some .int) 1 := ⟨⟨gw_t 1818 (by decide +kernel) rfl, gw_t 1819 (by decide +kernel) rfl, gw_t 1820 (by decide +kernel) rfl, gw_t 11 (by decide +kernel) rfl, gw_t 1821 (by decide +kernel) rfl⟩, by decide, by decide, by decide +kernel⟩
theorem ml_L_127 : MLV RL 127 RX10 yX10_fit cX10_fit 4 (some .int) 3 := ⟨⟨gw_t 1006 (by decide +kernel) rfl, gw_t 1007 (by decide +kernel) rfl, gw_t 1008 (by decide +kernel) rfl, gw_t 1 (by decide +kernel) rfl, gw_t 1009 (by decide +kernel) rfl⟩, by decide, by decide, by decide +kernel⟩
theorem ml_L_130 : MLV RL 130 RX12 yX12_fit cX12_fit 5 (some .int) 3 := ⟨⟨gw_t 1842 (by decide +kernel) rfl, gw_t 1843 (by decide +kernel) rfl, gw_t 1844 (by decide +kernel) rfl, gw_t 11 (by decide +kernel) rfl, gw_t 1845 (by decide +kernel) rfl⟩, by decide, by decide, by decide +kernel⟩
theorem ml_L_131 : MLV RL 131 RX10 yX10_sure cX10_sure 2 (some .int) 1 := ⟨⟨gw_t 1014 (by decide +kernel) rfl, gw_t 1015 (by decide +kernel) rfl, gw_t 1016 (by decide +kernel) rfl, gw_t 1 (by decide +kernel) rfl, gw_t 1017 (by decide +kernel) rfl⟩, by decide, by decide, by decide +kernel⟩
theorem ml_L_134 : MLV RL 134 RX12 yX12_sure cX12_sure 5 (some .int) 1 := ⟨⟨gw_t 1850 (by decide +kernel) rfl, gw_t 1851 (by decide +kernel) rfl, gw_t 1852 (by decide +kernel) rfl, gw_t 11 (by decide +kernel) rfl, gw_t 1853 (by decide +kernel) rfl⟩, by decide, by decide, by decide +kernel⟩
theorem ml_L_135 : MLV RL 135 RX10 yX10_verdict cX10_verdict 3 (some .int) 0 := ⟨⟨gw_t 1023 (by decide +kernel) rfl, gw_t 1024 (by decide +kernel) rfl, gw_t 1025 (by decide +kernel) rfl, gw_t 1 (by decide +kernel) rfl, gw_t 1026 (by decide +kernel) rfl⟩, by decide, by decide, by decide +kernel⟩
theorem ml_L_138 : MLV RL 138 RX12 yX12_verdict cX12_verdict 3 (some .int) 0 := ⟨⟨gw_t 1854 (by decide +kernel) rfl, gw_t 1855 (by decide +kernel) rfl, gw_t 1856 (by decide +kernel) rfl, gw_t 11 (by decide +kernel) rfl, gw_t 1857 (by decide +kernel) rfl⟩, by decide, by decide, by decide +kernel⟩
theorem ml_L_139 : MLV RL 139 RX10 yX10_parts cX10_parts 2 (some .int) 1 := ⟨⟨gw_t 1027 (by decide +kernel) rfl, gw_t 1028 (by decide +kernel) rfl, gw_t 1029 (by decide +kernel) rfl, gw_t 1 (by decide +kernel) rfl, gw_t 1030 (by decide +kernel) rfl⟩, by decide, by decide, by decide +kernel⟩
theorem ml_L_142 : MLV RL 142 RX12 yX12_parts cX12_parts 3 (some .int) 1 := ⟨⟨gw_t 1858 (by decide +kernel) rfl, gw_t 1859 (by decide +kernel) rfl, gw_t 1860 (by decide +kernel) rfl, gw_t 11 (by decide +kernel) rfl, gw_t 1861 (by decide +kernel) rfl⟩, by decide, by decide, by decide +kernel⟩
theorem ml_L_143 : MLV RL 143 RX10 yX10_best cX10_best 1 (some .int) 0 := ⟨⟨gw_t 1042 (by decide +kernel) rfl, gw_t 1043 (by decide +kernel) rfl, gw_t 1044 (by decide +kernel) rfl, gw_t 1 (by decide +kernel) rfl, gw_t 1045 (by decide +kernel) rfl⟩, by decide, by decide, by decide +kernel⟩
theorem ml_L_146 : MLV RL 146 RX12 yX12_best cX12_best 6 (some .int) 0 := ⟨⟨gw_t 1874 (by decide +kernel) rfl, gw_t 1875 (by decide +kernel) rfl, gw_t 1876 (by decide +kernel) rfl, gw_t 11 (by decide +kernel) rfl, gw_t 1877 (by decide +kernel) rfl⟩, by decide, by decide, by decide +kernel⟩
theorem ml_L_147 : MLV RL 147 RX10 yX10_told cX10_told 3 (some .int) 2 := ⟨⟨gw_t 1052 (by decide +kernel) rfl, gw_t 1053 (by decide +kernel) rfl, gw_t 1054 (by decide +kernel) rfl, gw_t 1 (by decide +kernel) rfl, gw_t 1055 (by decide +kernel) rfl⟩, by decide, by decide, by decide +kernel⟩
theorem ml_L_150 : MLV RL 150 RX12 yX12_told cX12_told 4 (some .int) 2 := ⟨⟨gw_t 1878 (by decide +kernel) rfl, gw_t 1879 (by decide +kernel) rfl, gw_t 1880 (by decide +kernel) rfl, gw_t 11 (by decide +kernel) rfl, gw_t 1881 (by decide +kernel) rfl⟩, by decide, by decide, by decide +kernel⟩
theorem ml_L_151 : MLV RL 151 RX10 yX10_alike cX10_alike 4 (some .int) 2 := ⟨⟨gw_t 1056 (by decide +kernel) rfl, gw_t 1057 (by decide +kernel) rfl, gw_t 1058 (by decide +kernel) rfl, gw_t 1 (by decide +kernel) rfl, gw_t 1059 (by decide +kernel) rfl⟩, by decide, by decide, by decide +kernel⟩
theorem ml_L_154 : MLV RL 154 RX12 yX12_alike cX12_alike 4 (some .int) 2 := ⟨⟨gw_t 1882 (by decide +kernel) rfl, gw_t 1883 (by decide +kernel) rfl, gw_t 1884 (by decide +kernel) rfl, gw_t 11 (by decide +kernel) rfl, gw_t 1885 (by decide +kernel) rfl⟩, by decide, by decide, by decide +kernel⟩
theorem ml_L_155 : MLV RL 155 RX10 yX10_never cX10_never 1 (some .int) 0 := ⟨⟨gw_t 1064 (by decide +kernel) rfl, gw_t 1065 (by decide +kernel) rfl, gw_t 1066 (by decide +kernel) rfl, gw_t 1 (by decide +kernel) rfl, gw_t 1067 (by decide +kernel) rfl⟩, by decide, by decide, by decide +kernel⟩
theorem ml_L_158 : MLV RL 158 RX12 yX12_never cX12_never 5 (some .int) 0 := ⟨⟨gw_t 1891 (by decide +kernel) rfl, gw_t 1892 (by decide +kernel) rfl, gw_t 1893 (by decide +kernel) rfl, gw_t 11 (by decide +kernel) rfl, gw_t 1894 (by decide +kernel) rfl⟩, by decide, by decide, by decide +kernel⟩
theorem ml_L_159 : MLV RL 159 RX10 yX10_safe cX10_safe 3 (some .int) 1 := ⟨⟨gw_t 1073 (by decide +kernel) rfl, gw_t 1074 (by decide +kernel) rfl, gw_t 1075 (by decide +kernel) rfl, gw_t 1 (by decide +kernel) rfl, gw_t 1076 (by decide +kernel) rfl⟩, by decide, by decide, by decide +kernel⟩
theorem ml_L_162 : MLV RL 162 RX12 yX12_safe cX12_safe 3 (some .int) 1 := ⟨⟨gw_t 1895 (by decide +kernel) rfl, gw_t 1896 (by decide +kernel) rfl, gw_t 1897 (by decide +kernel) rfl, gw_t 11 (by decide +kernel) rfl, gw_t 1898 (by decide +kernel) rfl⟩, by decide, by decide, by decide +kernel⟩
theorem ml_L_163 : MLV RL 163 RX10 yX10_safely cX10_safely 2 (some .int) 1 := ⟨⟨gw_t 1099 (by decide +kernel) rfl, gw_t 1078 (by decide +kernel) rfl, gw_t 1079 (by decide +kernel) rfl, gw_t 1 (by decide +kernel) rfl, gw_t 1080 (by decide +kernel) rfl⟩, by decide, by decide, by decide +kernel⟩
theorem ml_L_166 : MLV RL 166 RX12 yX12_safely cX12_safely 2 (some .int) 1 := ⟨⟨gw_t 1914 (by decide +kernel) rfl, gw_t 1915 (by decide +kernel) rfl, gw_t 1916 (by decide +kernel) rfl, gw_t 11 (by decide +kernel) rfl, gw_t 1917 (by decide +kernel) rfl⟩, by decide, by decide, by decide +kernel⟩
theorem ml_L_167 : MLV RL 167 RX10 yX10_walks cX10_walks 2 (some .int) 1 := ⟨⟨gw_t 1100 (by decide +kernel) rfl, gw_t 1101 (by decide +kernel) rfl, gw_t 1102 (by decide +kernel) rfl, gw_t 1 (by decide +kernel) rfl, gw_t 1103 (by decide +kernel) rfl⟩, by decide, by decide, by decide +kernel⟩
theorem ml_L_170 : MLV RL 170 RX12 yX12_walks cX12_walks 3 (some .int) 1 := ⟨⟨gw_t 1918 (by decide +kernel) rfl, gw_t 1919 (by decide +kernel) rfl, gw_t 1920 (by decide +kernel) rfl, gw_t 11 (by decide +kernel) rfl, gw_t 1921 (by decide +kernel) rfl⟩, by decide, by decide, by decide +kernel⟩
theorem ml_L_180 : MLV RL 180 RX10 yX10_size cX10_size 2 (some .int) 1 := ⟨⟨gw_t 1105 (by decide +kernel) rfl, gw_t 1106 (by decide +kernel) rfl, gw_t 1107 (by decide +kernel) rfl, gw_t 1 (by decide +kernel) rfl, gw_t 1108 (by decide +kernel) rfl⟩, by decide, by decide, by decide +kernel⟩
theorem ml_L_183 : MLV RL 183 RX12 yX12_size cX12_size 2 (some .int) 1 := ⟨⟨gw_t 1930 (by decide +kernel) rfl, gw_t 1931 (by decide +kernel) rfl, gw_t 1932 (by decide +kernel) rfl, gw_t 11 (by decide +kernel) rfl, gw_t 1933 (by decide +kernel) rfl⟩, by decide, by decide, by decide +kernel⟩
theorem ml_L_184 : MLV RL 184 RX10 yX10_trouble cX10_trouble 1 (some .int) 0 := ⟨⟨gw_t 1109 (by decide +kernel) rfl, gw_t 1110 (by decide +kernel) rfl, gw_t 1111 (by decide +kernel) rfl, gw_t 1 (by decide +kernel) rfl, gw_t 1112 (by decide +kernel) rfl⟩, by decide, by decide, by decide +kernel⟩
theorem ml_L_187 : MLV RL 187 RX12 yX12_trouble cX12_trouble 1 (some .int) 0 := ⟨⟨gw_t 1934 (by decide +kernel) rfl, gw_t 1935 (by decide +kernel) rfl, gw_t 1936 (by decide +kernel) rfl, gw_t 11 (by decide +kernel) rfl, gw_t 1937 (by decide +kernel) rfl⟩, by decide, by decide, by decide +kernel⟩
theorem dL_law_212 : decode code 212 = .ok (.aload_n 1, 1) := by decide +kernel
theorem dL_law_213 : decode code 213 = .ok (.aload_n 0, 1) := by decide +kernel
theorem dL_law_214 : decode code 214 = .ok (.iload 4, 2) := by decide +kernel
theorem dL_law_216 : decode code 216 = .ok (.iconst 1, 1) := by decide +kernel
theorem dL_law_217 : decode code 217 = .ok (.iadd, 1) := by decide +kernel
theorem dL_law_218 : decode code 218 = .ok (.iaload, 1) := by decide +kernel
theorem dL_law_219 : decode code 219 = .ok (.aload_n 0, 1) := by decide +kernel
theorem dL_law_220 : decode code 220 = .ok (.iload 4, 2) := by decide +kernel
theorem dL_law_222 : decode code 222 = .ok (.iconst 2, 1) := by decide +kernel
theorem dL_law_223 : decode code 223 = .ok (.iadd, 1) := by decide +kernel
theorem dL_law_224 : decode code 224 = .ok (.iaload, 1) := by decide +kernel
theorem dL_law_225 : decode code 225 = .ok (.aload_n 0, 1) := by decide +kernel
theorem dL_law_226 : decode code 226 = .ok (.iload 4, 2) := by decide +kernel
theorem dL_law_228 : decode code 228 = .ok (.iconst 3, 1) := by decide +kernel
theorem dL_law_229 : decode code 229 = .ok (.iadd, 1) := by decide +kernel
theorem dL_law_230 : decode code 230 = .ok (.iaload, 1) := by decide +kernel
theorem dL_law_231 : decode code 231 = .ok (.aload_n 0, 1) := by decide +kernel
theorem dL_law_232 : decode code 232 = .ok (.iload 4, 2) := by decide +kernel
theorem dL_law_234 : decode code 234 = .ok (.iconst 4, 1) := by decide +kernel
theorem dL_law_235 : decode code 235 = .ok (.iadd, 1) := by decide +kernel
theorem dL_law_236 : decode code 236 = .ok (.iaload, 1) := by decide +kernel
theorem dL_law_237 : decode code 237 = .ok (.aload_n 0, 1) := by decide +kernel
theorem dL_law_238 : decode code 238 = .ok (.iload 4, 2) := by decide +kernel
theorem dL_law_240 : decode code 240 = .ok (.iconst 5, 1) := by decide +kernel
theorem dL_law_241 : decode code 241 = .ok (.iadd, 1) := by decide +kernel
theorem dL_law_242 : decode code 242 = .ok (.iaload, 1) := by decide +kernel
theorem dL_law_243 : decode code 243 = .ok (.invokevirtual 19, 3) := by decide +kernel
theorem dL_law_246 : decode code 246 = .ok (.aload_n 2, 1) := by decide +kernel
theorem dL_law_247 : decode code 247 = .ok (.aload_n 0, 1) := by decide +kernel
theorem dL_law_248 : decode code 248 = .ok (.iload 4, 2) := by decide +kernel
theorem dL_law_250 : decode code 250 = .ok (.iconst 1, 1) := by decide +kernel
theorem dL_law_251 : decode code 251 = .ok (.iadd, 1) := by decide +kernel
theorem dL_law_252 : decode code 252 = .ok (.iaload, 1) := by decide +kernel
theorem dL_law_253 : decode code 253 = .ok (.aload_n 0, 1) := by decide +kernel
theorem dL_law_254 : decode code 254 = .ok (.iload 4, 2) := by decide +kernel
theorem dL_law_256 : decode code 256 = .ok (.iconst 2, 1) := by decide +kernel
theorem dL_law_257 : decode code 257 = .ok (.iadd, 1) := by decide +kernel
theorem dL_law_258 : decode code 258 = .ok (.iaload, 1) := by decide +kernel
theorem dL_law_259 : decode code 259 = .ok (.aload_n 0, 1) := by decide +kernel
theorem dL_law_260 : decode code 260 = .ok (.iload 4, 2) := by decide +kernel
theorem dL_law_262 : decode code 262 = .ok (.iconst 3, 1) := by decide +kernel
theorem dL_law_263 : decode code 263 = .ok (.iadd, 1) := by decide +kernel
theorem dL_law_264 : decode code 264 = .ok (.iaload, 1) := by decide +kernel
theorem dL_law_265 : decode code 265 = .ok (.aload_n 0, 1) := by decide +kernel
theorem dL_law_266 : decode code 266 = .ok (.iload 4, 2) := by decide +kernel
theorem dL_law_268 : decode code 268 = .ok (.iconst 4, 1) := by decide +kernel
theorem dL_law_269 : decode code 269 = .ok (.iadd, 1) := by decide +kernel
theorem dL_law_270 : decode code 270 = .ok (.iaload, 1) := by decide +kernel
theorem dL_law_271 : decode code 271 = .ok (.aload_n 0, 1) := by decide +kernel
theorem dL_law_272 : decode code 272 = .ok (.iload 4, 2) := by decide +kernel
theorem dL_law_274 : decode code 274 = .ok (.iconst 5, 1) := by decide +kernel
theorem dL_law_275 : decode code 275 = .ok (.iadd, 1) := by decide +kernel
theorem dL_law_276 : decode code 276 = .ok (.iaload, 1) := by decide +kernel
theorem dL_law_277 : decode code 277 = .ok (.invokevirtual 23, 3) := by decide +kernel
theorem dL_law_280 : decode code 280 = .ok (.if_icmp .eq 1170, 3) := by decide +kernel
theorem dL_law_283 : decode code 283 = .ok (.iconst 0, 1) := by decide +kernel
theorem dL_law_310 : decode code 310 = .ok (.aload_n 1, 1) := by decide +kernel
theorem dL_law_311 : decode code 311 = .ok (.invokevirtual 28, 3) := by decide +kernel
theorem dL_law_314 : decode code 314 = .ok (.aload_n 2, 1) := by decide +kernel
theorem dL_law_315 : decode code 315 = .ok (.invokevirtual 32, 3) := by decide +kernel
theorem dL_law_318 : decode code 318 = .ok (.if_icmp .eq 1132, 3) := by decide +kernel
theorem dL_law_321 : decode code 321 = .ok (.iconst 0, 1) := by decide +kernel
theorem dL_law_323 : decode code 323 = .ok (.aload_n 1, 1) := by decide +kernel
theorem dL_law_324 : decode code 324 = .ok (.invokevirtual 33, 3) := by decide +kernel
theorem dL_law_327 : decode code 327 = .ok (.aload_n 2, 1) := by decide +kernel
theorem dL_law_328 : decode code 328 = .ok (.invokevirtual 36, 3) := by decide +kernel
theorem dL_law_331 : decode code 331 = .ok (.if_icmp .eq 1119, 3) := by decide +kernel
theorem dL_law_334 : decode code 334 = .ok (.iconst 0, 1) := by decide +kernel
theorem dL_law_336 : decode code 336 = .ok (.aload_n 1, 1) := by decide +kernel
theorem dL_law_337 : decode code 337 = .ok (.aload_n 0, 1) := by decide +kernel
theorem dL_law_338 : decode code 338 = .ok (.iload 4, 2) := by decide +kernel
theorem dL_law_340 : decode code 340 = .ok (.iconst 1, 1) := by decide +kernel
theorem dL_law_341 : decode code 341 = .ok (.iadd, 1) := by decide +kernel
theorem dL_law_342 : decode code 342 = .ok (.iaload, 1) := by decide +kernel
theorem dL_law_343 : decode code 343 = .ok (.aload_n 0, 1) := by decide +kernel
theorem dL_law_344 : decode code 344 = .ok (.iload 4, 2) := by decide +kernel
theorem dL_law_346 : decode code 346 = .ok (.iconst 2, 1) := by decide +kernel
theorem dL_law_347 : decode code 347 = .ok (.iadd, 1) := by decide +kernel
theorem dL_law_348 : decode code 348 = .ok (.iaload, 1) := by decide +kernel
theorem dL_law_349 : decode code 349 = .ok (.invokevirtual 37, 3) := by decide +kernel
theorem dL_law_352 : decode code 352 = .ok (.aload_n 2, 1) := by decide +kernel
theorem dL_law_353 : decode code 353 = .ok (.aload_n 0, 1) := by decide +kernel
theorem dL_law_354 : decode code 354 = .ok (.iload 4, 2) := by decide +kernel
theorem dL_law_356 : decode code 356 = .ok (.iconst 1, 1) := by decide +kernel
theorem dL_law_357 : decode code 357 = .ok (.iadd, 1) := by decide +kernel
theorem dL_law_358 : decode code 358 = .ok (.iaload, 1) := by decide +kernel
theorem dL_law_359 : decode code 359 = .ok (.aload_n 0, 1) := by decide +kernel
theorem dL_law_360 : decode code 360 = .ok (.iload 4, 2) := by decide +kernel
theorem dL_law_362 : decode code 362 = .ok (.iconst 2, 1) := by decide +kernel
theorem dL_law_363 : decode code 363 = .ok (.iadd, 1) := by decide +kernel
theorem dL_law_364 : decode code 364 = .ok (.iaload, 1) := by decide +kernel
theorem dL_law_365 : decode code 365 = .ok (.invokevirtual 41, 3) := by decide +kernel
theorem dL_law_368 : decode code 368 = .ok (.if_icmp .eq 1082, 3) := by decide +kernel
theorem dL_law_371 : decode code 371 = .ok (.iconst 0, 1) := by decide +kernel
theorem dL_law_373 : decode code 373 = .ok (.aload_n 1, 1) := by decide +kernel
theorem dL_law_374 : decode code 374 = .ok (.aload_n 0, 1) := by decide +kernel
theorem dL_law_375 : decode code 375 = .ok (.iload 4, 2) := by decide +kernel
theorem dL_law_377 : decode code 377 = .ok (.iconst 1, 1) := by decide +kernel
theorem dL_law_378 : decode code 378 = .ok (.iadd, 1) := by decide +kernel
theorem dL_law_379 : decode code 379 = .ok (.iaload, 1) := by decide +kernel
theorem dL_law_380 : decode code 380 = .ok (.aload_n 0, 1) := by decide +kernel
theorem dL_law_381 : decode code 381 = .ok (.iload 4, 2) := by decide +kernel
theorem dL_law_383 : decode code 383 = .ok (.iconst 2, 1) := by decide +kernel
theorem dL_law_384 : decode code 384 = .ok (.iadd, 1) := by decide +kernel
theorem dL_law_385 : decode code 385 = .ok (.iaload, 1) := by decide +kernel
theorem dL_law_386 : decode code 386 = .ok (.invokevirtual 42, 3) := by decide +kernel
theorem dL_law_389 : decode code 389 = .ok (.aload_n 2, 1) := by decide +kernel
theorem dL_law_390 : decode code 390 = .ok (.aload_n 0, 1) := by decide +kernel
theorem dL_law_391 : decode code 391 = .ok (.iload 4, 2) := by decide +kernel
theorem dL_law_393 : decode code 393 = .ok (.iconst 1, 1) := by decide +kernel
theorem dL_law_394 : decode code 394 = .ok (.iadd, 1) := by decide +kernel
theorem dL_law_395 : decode code 395 = .ok (.iaload, 1) := by decide +kernel
theorem dL_law_396 : decode code 396 = .ok (.aload_n 0, 1) := by decide +kernel
theorem dL_law_397 : decode code 397 = .ok (.iload 4, 2) := by decide +kernel
theorem dL_law_399 : decode code 399 = .ok (.iconst 2, 1) := by decide +kernel
theorem dL_law_400 : decode code 400 = .ok (.iadd, 1) := by decide +kernel
theorem dL_law_401 : decode code 401 = .ok (.iaload, 1) := by decide +kernel
theorem dL_law_402 : decode code 402 = .ok (.invokevirtual 45, 3) := by decide +kernel
theorem dL_law_405 : decode code 405 = .ok (.if_icmp .eq 1045, 3) := by decide +kernel
theorem dL_law_408 : decode code 408 = .ok (.iconst 0, 1) := by decide +kernel
theorem dL_law_410 : decode code 410 = .ok (.aload_n 1, 1) := by decide +kernel
theorem dL_law_411 : decode code 411 = .ok (.aload_n 0, 1) := by decide +kernel
theorem dL_law_412 : decode code 412 = .ok (.iload 4, 2) := by decide +kernel
theorem dL_law_414 : decode code 414 = .ok (.iconst 1, 1) := by decide +kernel
theorem dL_law_415 : decode code 415 = .ok (.iadd, 1) := by decide +kernel
theorem dL_law_416 : decode code 416 = .ok (.iaload, 1) := by decide +kernel
theorem dL_law_417 : decode code 417 = .ok (.aload_n 0, 1) := by decide +kernel
theorem dL_law_418 : decode code 418 = .ok (.iload 4, 2) := by decide +kernel
theorem dL_law_420 : decode code 420 = .ok (.iconst 2, 1) := by decide +kernel
theorem dL_law_421 : decode code 421 = .ok (.iadd, 1) := by decide +kernel
theorem dL_law_422 : decode code 422 = .ok (.iaload, 1) := by decide +kernel
theorem dL_law_423 : decode code 423 = .ok (.invokevirtual 46, 3) := by decide +kernel
theorem dL_law_426 : decode code 426 = .ok (.aload_n 2, 1) := by decide +kernel
theorem dL_law_427 : decode code 427 = .ok (.aload_n 0, 1) := by decide +kernel
theorem dL_law_428 : decode code 428 = .ok (.iload 4, 2) := by decide +kernel
theorem dL_law_430 : decode code 430 = .ok (.iconst 1, 1) := by decide +kernel
theorem dL_law_431 : decode code 431 = .ok (.iadd, 1) := by decide +kernel
theorem dL_law_432 : decode code 432 = .ok (.iaload, 1) := by decide +kernel
theorem dL_law_433 : decode code 433 = .ok (.aload_n 0, 1) := by decide +kernel
theorem dL_law_434 : decode code 434 = .ok (.iload 4, 2) := by decide +kernel
theorem dL_law_436 : decode code 436 = .ok (.iconst 2, 1) := by decide +kernel
theorem dL_law_437 : decode code 437 = .ok (.iadd, 1) := by decide +kernel
theorem dL_law_438 : decode code 438 = .ok (.iaload, 1) := by decide +kernel
theorem dL_law_439 : decode code 439 = .ok (.invokevirtual 49, 3) := by decide +kernel
theorem dL_law_442 : decode code 442 = .ok (.if_icmp .eq 1008, 3) := by decide +kernel
theorem dL_law_445 : decode code 445 = .ok (.iconst 0, 1) := by decide +kernel
theorem dL_law_447 : decode code 447 = .ok (.aload_n 1, 1) := by decide +kernel
theorem dL_law_448 : decode code 448 = .ok (.aload_n 0, 1) := by decide +kernel
theorem dL_law_449 : decode code 449 = .ok (.iload 4, 2) := by decide +kernel
theorem dL_law_451 : decode code 451 = .ok (.iconst 1, 1) := by decide +kernel
theorem dL_law_452 : decode code 452 = .ok (.iadd, 1) := by decide +kernel
theorem dL_law_453 : decode code 453 = .ok (.iaload, 1) := by decide +kernel
theorem dL_law_454 : decode code 454 = .ok (.aload_n 0, 1) := by decide +kernel
theorem dL_law_455 : decode code 455 = .ok (.iload 4, 2) := by decide +kernel
theorem dL_law_457 : decode code 457 = .ok (.iconst 2, 1) := by decide +kernel
theorem dL_law_458 : decode code 458 = .ok (.iadd, 1) := by decide +kernel
theorem dL_law_459 : decode code 459 = .ok (.iaload, 1) := by decide +kernel
theorem dL_law_460 : decode code 460 = .ok (.aload_n 0, 1) := by decide +kernel
theorem dL_law_461 : decode code 461 = .ok (.iload 4, 2) := by decide +kernel
theorem dL_law_463 : decode code 463 = .ok (.iconst 3, 1) := by decide +kernel
theorem dL_law_464 : decode code 464 = .ok (.iadd, 1) := by decide +kernel
theorem dL_law_465 : decode code 465 = .ok (.iaload, 1) := by decide +kernel
theorem dL_law_466 : decode code 466 = .ok (.invokevirtual 50, 3) := by decide +kernel
theorem dL_law_469 : decode code 469 = .ok (.aload_n 2, 1) := by decide +kernel
theorem dL_law_470 : decode code 470 = .ok (.aload_n 0, 1) := by decide +kernel
theorem dL_law_471 : decode code 471 = .ok (.iload 4, 2) := by decide +kernel
theorem dL_law_473 : decode code 473 = .ok (.iconst 1, 1) := by decide +kernel
theorem dL_law_474 : decode code 474 = .ok (.iadd, 1) := by decide +kernel
theorem dL_law_475 : decode code 475 = .ok (.iaload, 1) := by decide +kernel
theorem dL_law_476 : decode code 476 = .ok (.aload_n 0, 1) := by decide +kernel
theorem dL_law_477 : decode code 477 = .ok (.iload 4, 2) := by decide +kernel
theorem dL_law_479 : decode code 479 = .ok (.iconst 2, 1) := by decide +kernel
theorem dL_law_480 : decode code 480 = .ok (.iadd, 1) := by decide +kernel
theorem dL_law_481 : decode code 481 = .ok (.iaload, 1) := by decide +kernel
theorem dL_law_482 : decode code 482 = .ok (.aload_n 0, 1) := by decide +kernel
theorem dL_law_483 : decode code 483 = .ok (.iload 4, 2) := by decide +kernel
theorem dL_law_485 : decode code 485 = .ok (.iconst 3, 1) := by decide +kernel
theorem dL_law_486 : decode code 486 = .ok (.iadd, 1) := by decide +kernel
theorem dL_law_487 : decode code 487 = .ok (.iaload, 1) := by decide +kernel
theorem dL_law_488 : decode code 488 = .ok (.invokevirtual 54, 3) := by decide +kernel
theorem dL_law_491 : decode code 491 = .ok (.if_icmp .eq 959, 3) := by decide +kernel
theorem dL_law_494 : decode code 494 = .ok (.iconst 0, 1) := by decide +kernel
theorem dL_law_496 : decode code 496 = .ok (.aload_n 1, 1) := by decide +kernel
theorem dL_law_497 : decode code 497 = .ok (.aload_n 0, 1) := by decide +kernel
theorem dL_law_498 : decode code 498 = .ok (.iload 4, 2) := by decide +kernel
theorem dL_law_500 : decode code 500 = .ok (.iconst 1, 1) := by decide +kernel
theorem dL_law_501 : decode code 501 = .ok (.iadd, 1) := by decide +kernel
theorem dL_law_502 : decode code 502 = .ok (.iaload, 1) := by decide +kernel
theorem dL_law_503 : decode code 503 = .ok (.invokevirtual 55, 3) := by decide +kernel
theorem dL_law_506 : decode code 506 = .ok (.aload_n 2, 1) := by decide +kernel
theorem dL_law_507 : decode code 507 = .ok (.aload_n 0, 1) := by decide +kernel
theorem dL_law_508 : decode code 508 = .ok (.iload 4, 2) := by decide +kernel
theorem dL_law_510 : decode code 510 = .ok (.iconst 1, 1) := by decide +kernel
theorem dL_law_511 : decode code 511 = .ok (.iadd, 1) := by decide +kernel
theorem dL_law_512 : decode code 512 = .ok (.iaload, 1) := by decide +kernel
theorem dL_law_513 : decode code 513 = .ok (.invokevirtual 59, 3) := by decide +kernel
theorem dL_law_516 : decode code 516 = .ok (.if_icmp .eq 934, 3) := by decide +kernel
theorem dL_law_519 : decode code 519 = .ok (.iconst 0, 1) := by decide +kernel
theorem dL_law_521 : decode code 521 = .ok (.aload_n 1, 1) := by decide +kernel
theorem dL_law_522 : decode code 522 = .ok (.aload_n 0, 1) := by decide +kernel
theorem dL_law_523 : decode code 523 = .ok (.iload 4, 2) := by decide +kernel
theorem dL_law_525 : decode code 525 = .ok (.iconst 1, 1) := by decide +kernel
theorem dL_law_526 : decode code 526 = .ok (.iadd, 1) := by decide +kernel
theorem dL_law_527 : decode code 527 = .ok (.iaload, 1) := by decide +kernel
theorem dL_law_528 : decode code 528 = .ok (.aload_n 0, 1) := by decide +kernel
theorem dL_law_529 : decode code 529 = .ok (.iload 4, 2) := by decide +kernel
theorem dL_law_531 : decode code 531 = .ok (.iconst 2, 1) := by decide +kernel
theorem dL_law_532 : decode code 532 = .ok (.iadd, 1) := by decide +kernel
theorem dL_law_533 : decode code 533 = .ok (.iaload, 1) := by decide +kernel
theorem dL_law_534 : decode code 534 = .ok (.invokevirtual 60, 3) := by decide +kernel
theorem dL_law_537 : decode code 537 = .ok (.aload_n 2, 1) := by decide +kernel
theorem dL_law_538 : decode code 538 = .ok (.aload_n 0, 1) := by decide +kernel
theorem dL_law_539 : decode code 539 = .ok (.iload 4, 2) := by decide +kernel
theorem dL_law_541 : decode code 541 = .ok (.iconst 1, 1) := by decide +kernel
theorem dL_law_542 : decode code 542 = .ok (.iadd, 1) := by decide +kernel
theorem dL_law_543 : decode code 543 = .ok (.iaload, 1) := by decide +kernel
theorem dL_law_544 : decode code 544 = .ok (.aload_n 0, 1) := by decide +kernel
theorem dL_law_545 : decode code 545 = .ok (.iload 4, 2) := by decide +kernel
theorem dL_law_547 : decode code 547 = .ok (.iconst 2, 1) := by decide +kernel
theorem dL_law_548 : decode code 548 = .ok (.iadd, 1) := by decide +kernel
theorem dL_law_549 : decode code 549 = .ok (.iaload, 1) := by decide +kernel
theorem dL_law_550 : decode code 550 = .ok (.invokevirtual 64, 3) := by decide +kernel
theorem dL_law_553 : decode code 553 = .ok (.if_icmp .eq 897, 3) := by decide +kernel
theorem dL_law_556 : decode code 556 = .ok (.iconst 0, 1) := by decide +kernel
theorem dL_law_558 : decode code 558 = .ok (.aload_n 1, 1) := by decide +kernel
theorem dL_law_559 : decode code 559 = .ok (.aload_n 0, 1) := by decide +kernel
theorem dL_law_560 : decode code 560 = .ok (.iload 4, 2) := by decide +kernel
theorem dL_law_562 : decode code 562 = .ok (.iconst 1, 1) := by decide +kernel
theorem dL_law_563 : decode code 563 = .ok (.iadd, 1) := by decide +kernel
theorem dL_law_564 : decode code 564 = .ok (.iaload, 1) := by decide +kernel
theorem dL_law_565 : decode code 565 = .ok (.invokevirtual 65, 3) := by decide +kernel
theorem dL_law_568 : decode code 568 = .ok (.aload_n 2, 1) := by decide +kernel
theorem dL_law_569 : decode code 569 = .ok (.aload_n 0, 1) := by decide +kernel
theorem dL_law_570 : decode code 570 = .ok (.iload 4, 2) := by decide +kernel
theorem dL_law_572 : decode code 572 = .ok (.iconst 1, 1) := by decide +kernel
theorem dL_law_573 : decode code 573 = .ok (.iadd, 1) := by decide +kernel
theorem dL_law_574 : decode code 574 = .ok (.iaload, 1) := by decide +kernel
theorem dL_law_575 : decode code 575 = .ok (.invokevirtual 68, 3) := by decide +kernel
theorem dL_law_578 : decode code 578 = .ok (.if_icmp .eq 872, 3) := by decide +kernel
theorem dL_law_581 : decode code 581 = .ok (.iconst 0, 1) := by decide +kernel
theorem dL_law_583 : decode code 583 = .ok (.aload_n 1, 1) := by decide +kernel
theorem dL_law_584 : decode code 584 = .ok (.invokevirtual 69, 3) := by decide +kernel
theorem dL_law_587 : decode code 587 = .ok (.aload_n 2, 1) := by decide +kernel
theorem dL_law_588 : decode code 588 = .ok (.invokevirtual 72, 3) := by decide +kernel
theorem dL_law_591 : decode code 591 = .ok (.if_icmp .eq 859, 3) := by decide +kernel
theorem dL_law_594 : decode code 594 = .ok (.iconst 0, 1) := by decide +kernel
theorem dL_law_596 : decode code 596 = .ok (.aload_n 1, 1) := by decide +kernel
theorem dL_law_597 : decode code 597 = .ok (.aload_n 0, 1) := by decide +kernel
theorem dL_law_598 : decode code 598 = .ok (.iload 4, 2) := by decide +kernel
theorem dL_law_600 : decode code 600 = .ok (.iconst 1, 1) := by decide +kernel
theorem dL_law_601 : decode code 601 = .ok (.iadd, 1) := by decide +kernel
theorem dL_law_602 : decode code 602 = .ok (.iaload, 1) := by decide +kernel
theorem dL_law_603 : decode code 603 = .ok (.aload_n 0, 1) := by decide +kernel
theorem dL_law_604 : decode code 604 = .ok (.iload 4, 2) := by decide +kernel
theorem dL_law_606 : decode code 606 = .ok (.iconst 2, 1) := by decide +kernel
theorem dL_law_607 : decode code 607 = .ok (.iadd, 1) := by decide +kernel
theorem dL_law_608 : decode code 608 = .ok (.iaload, 1) := by decide +kernel
theorem dL_law_609 : decode code 609 = .ok (.invokevirtual 73, 3) := by decide +kernel
theorem dL_law_612 : decode code 612 = .ok (.aload_n 2, 1) := by decide +kernel
theorem dL_law_613 : decode code 613 = .ok (.aload_n 0, 1) := by decide +kernel
theorem dL_law_614 : decode code 614 = .ok (.iload 4, 2) := by decide +kernel
theorem dL_law_616 : decode code 616 = .ok (.iconst 1, 1) := by decide +kernel
theorem dL_law_617 : decode code 617 = .ok (.iadd, 1) := by decide +kernel
theorem dL_law_618 : decode code 618 = .ok (.iaload, 1) := by decide +kernel
theorem dL_law_619 : decode code 619 = .ok (.aload_n 0, 1) := by decide +kernel
theorem dL_law_620 : decode code 620 = .ok (.iload 4, 2) := by decide +kernel
theorem dL_law_622 : decode code 622 = .ok (.iconst 2, 1) := by decide +kernel
theorem dL_law_623 : decode code 623 = .ok (.iadd, 1) := by decide +kernel
theorem dL_law_624 : decode code 624 = .ok (.iaload, 1) := by decide +kernel
theorem dL_law_625 : decode code 625 = .ok (.invokevirtual 76, 3) := by decide +kernel
theorem dL_law_628 : decode code 628 = .ok (.if_icmp .eq 822, 3) := by decide +kernel
theorem dL_law_631 : decode code 631 = .ok (.iconst 0, 1) := by decide +kernel
theorem dL_law_633 : decode code 633 = .ok (.aload_n 1, 1) := by decide +kernel
theorem dL_law_634 : decode code 634 = .ok (.aload_n 0, 1) := by decide +kernel
theorem dL_law_635 : decode code 635 = .ok (.iload 4, 2) := by decide +kernel
theorem dL_law_637 : decode code 637 = .ok (.iconst 1, 1) := by decide +kernel
theorem dL_law_638 : decode code 638 = .ok (.iadd, 1) := by decide +kernel
theorem dL_law_639 : decode code 639 = .ok (.iaload, 1) := by decide +kernel
theorem dL_law_640 : decode code 640 = .ok (.aload_n 0, 1) := by decide +kernel
theorem dL_law_641 : decode code 641 = .ok (.iload 4, 2) := by decide +kernel
theorem dL_law_643 : decode code 643 = .ok (.iconst 2, 1) := by decide +kernel
theorem dL_law_644 : decode code 644 = .ok (.iadd, 1) := by decide +kernel
theorem dL_law_645 : decode code 645 = .ok (.iaload, 1) := by decide +kernel
theorem dL_law_646 : decode code 646 = .ok (.invokevirtual 77, 3) := by decide +kernel
theorem dL_law_649 : decode code 649 = .ok (.aload_n 2, 1) := by decide +kernel
theorem dL_law_650 : decode code 650 = .ok (.aload_n 0, 1) := by decide +kernel
theorem dL_law_651 : decode code 651 = .ok (.iload 4, 2) := by decide +kernel
theorem dL_law_653 : decode code 653 = .ok (.iconst 1, 1) := by decide +kernel
theorem dL_law_654 : decode code 654 = .ok (.iadd, 1) := by decide +kernel
theorem dL_law_655 : decode code 655 = .ok (.iaload, 1) := by decide +kernel
theorem dL_law_656 : decode code 656 = .ok (.aload_n 0, 1) := by decide +kernel
theorem dL_law_657 : decode code 657 = .ok (.iload 4, 2) := by decide +kernel
theorem dL_law_659 : decode code 659 = .ok (.iconst 2, 1) := by decide +kernel
theorem dL_law_660 : decode code 660 = .ok (.iadd, 1) := by decide +kernel
theorem dL_law_661 : decode code 661 = .ok (.iaload, 1) := by decide +kernel
theorem dL_law_662 : decode code 662 = .ok (.invokevirtual 80, 3) := by decide +kernel
theorem dL_law_665 : decode code 665 = .ok (.if_icmp .eq 785, 3) := by decide +kernel
theorem dL_law_668 : decode code 668 = .ok (.iconst 0, 1) := by decide +kernel
theorem dL_law_670 : decode code 670 = .ok (.aload_n 1, 1) := by decide +kernel
theorem dL_law_671 : decode code 671 = .ok (.aload_n 0, 1) := by decide +kernel
theorem dL_law_672 : decode code 672 = .ok (.iload 4, 2) := by decide +kernel
theorem dL_law_674 : decode code 674 = .ok (.iconst 1, 1) := by decide +kernel
theorem dL_law_675 : decode code 675 = .ok (.iadd, 1) := by decide +kernel
theorem dL_law_676 : decode code 676 = .ok (.iaload, 1) := by decide +kernel
theorem dL_law_677 : decode code 677 = .ok (.aload_n 0, 1) := by decide +kernel
theorem dL_law_678 : decode code 678 = .ok (.iload 4, 2) := by decide +kernel
theorem dL_law_680 : decode code 680 = .ok (.iconst 2, 1) := by decide +kernel
theorem dL_law_681 : decode code 681 = .ok (.iadd, 1) := by decide +kernel
theorem dL_law_682 : decode code 682 = .ok (.iaload, 1) := by decide +kernel
theorem dL_law_683 : decode code 683 = .ok (.invokevirtual 81, 3) := by decide +kernel
theorem dL_law_686 : decode code 686 = .ok (.aload_n 2, 1) := by decide +kernel
theorem dL_law_687 : decode code 687 = .ok (.aload_n 0, 1) := by decide +kernel
theorem dL_law_688 : decode code 688 = .ok (.iload 4, 2) := by decide +kernel
theorem dL_law_690 : decode code 690 = .ok (.iconst 1, 1) := by decide +kernel
theorem dL_law_691 : decode code 691 = .ok (.iadd, 1) := by decide +kernel
theorem dL_law_692 : decode code 692 = .ok (.iaload, 1) := by decide +kernel
theorem dL_law_693 : decode code 693 = .ok (.aload_n 0, 1) := by decide +kernel
theorem dL_law_694 : decode code 694 = .ok (.iload 4, 2) := by decide +kernel
theorem dL_law_696 : decode code 696 = .ok (.iconst 2, 1) := by decide +kernel
theorem dL_law_697 : decode code 697 = .ok (.iadd, 1) := by decide +kernel
theorem dL_law_698 : decode code 698 = .ok (.iaload, 1) := by decide +kernel
theorem dL_law_699 : decode code 699 = .ok (.invokevirtual 84, 3) := by decide +kernel
theorem dL_law_702 : decode code 702 = .ok (.if_icmp .eq 748, 3) := by decide +kernel
theorem dL_law_705 : decode code 705 = .ok (.iconst 0, 1) := by decide +kernel
theorem dL_law_707 : decode code 707 = .ok (.aload_n 1, 1) := by decide +kernel
theorem dL_law_708 : decode code 708 = .ok (.aload_n 0, 1) := by decide +kernel
theorem dL_law_709 : decode code 709 = .ok (.iload 4, 2) := by decide +kernel
theorem dL_law_711 : decode code 711 = .ok (.iconst 1, 1) := by decide +kernel
theorem dL_law_712 : decode code 712 = .ok (.iadd, 1) := by decide +kernel
theorem dL_law_713 : decode code 713 = .ok (.iaload, 1) := by decide +kernel
theorem dL_law_714 : decode code 714 = .ok (.aload_n 0, 1) := by decide +kernel
theorem dL_law_715 : decode code 715 = .ok (.iload 4, 2) := by decide +kernel
theorem dL_law_717 : decode code 717 = .ok (.iconst 2, 1) := by decide +kernel
theorem dL_law_718 : decode code 718 = .ok (.iadd, 1) := by decide +kernel
theorem dL_law_719 : decode code 719 = .ok (.iaload, 1) := by decide +kernel
theorem dL_law_720 : decode code 720 = .ok (.invokevirtual 85, 3) := by decide +kernel
theorem dL_law_723 : decode code 723 = .ok (.aload_n 2, 1) := by decide +kernel
theorem dL_law_724 : decode code 724 = .ok (.aload_n 0, 1) := by decide +kernel
theorem dL_law_725 : decode code 725 = .ok (.iload 4, 2) := by decide +kernel
theorem dL_law_727 : decode code 727 = .ok (.iconst 1, 1) := by decide +kernel
theorem dL_law_728 : decode code 728 = .ok (.iadd, 1) := by decide +kernel
theorem dL_law_729 : decode code 729 = .ok (.iaload, 1) := by decide +kernel
theorem dL_law_730 : decode code 730 = .ok (.aload_n 0, 1) := by decide +kernel
theorem dL_law_731 : decode code 731 = .ok (.iload 4, 2) := by decide +kernel
theorem dL_law_733 : decode code 733 = .ok (.iconst 2, 1) := by decide +kernel
theorem dL_law_734 : decode code 734 = .ok (.iadd, 1) := by decide +kernel
theorem dL_law_735 : decode code 735 = .ok (.iaload, 1) := by decide +kernel
theorem dL_law_736 : decode code 736 = .ok (.invokevirtual 88, 3) := by decide +kernel
theorem dL_law_739 : decode code 739 = .ok (.if_icmp .eq 711, 3) := by decide +kernel
theorem dL_law_742 : decode code 742 = .ok (.iconst 0, 1) := by decide +kernel
theorem dL_law_744 : decode code 744 = .ok (.aload_n 1, 1) := by decide +kernel
theorem dL_law_745 : decode code 745 = .ok (.aload_n 0, 1) := by decide +kernel
theorem dL_law_746 : decode code 746 = .ok (.iload 4, 2) := by decide +kernel
theorem dL_law_748 : decode code 748 = .ok (.iconst 1, 1) := by decide +kernel
theorem dL_law_749 : decode code 749 = .ok (.iadd, 1) := by decide +kernel
theorem dL_law_750 : decode code 750 = .ok (.iaload, 1) := by decide +kernel
theorem dL_law_751 : decode code 751 = .ok (.invokevirtual 89, 3) := by decide +kernel
theorem dL_law_754 : decode code 754 = .ok (.aload_n 2, 1) := by decide +kernel
theorem dL_law_755 : decode code 755 = .ok (.aload_n 0, 1) := by decide +kernel
theorem dL_law_756 : decode code 756 = .ok (.iload 4, 2) := by decide +kernel
theorem dL_law_758 : decode code 758 = .ok (.iconst 1, 1) := by decide +kernel
theorem dL_law_759 : decode code 759 = .ok (.iadd, 1) := by decide +kernel
theorem dL_law_760 : decode code 760 = .ok (.iaload, 1) := by decide +kernel
theorem dL_law_761 : decode code 761 = .ok (.invokevirtual 92, 3) := by decide +kernel
theorem dL_law_764 : decode code 764 = .ok (.if_icmp .eq 686, 3) := by decide +kernel
theorem dL_law_767 : decode code 767 = .ok (.iconst 0, 1) := by decide +kernel
theorem dL_law_769 : decode code 769 = .ok (.aload_n 1, 1) := by decide +kernel
theorem dL_law_770 : decode code 770 = .ok (.aload_n 0, 1) := by decide +kernel
theorem dL_law_771 : decode code 771 = .ok (.iload 4, 2) := by decide +kernel
theorem dL_law_773 : decode code 773 = .ok (.iconst 1, 1) := by decide +kernel
theorem dL_law_774 : decode code 774 = .ok (.iadd, 1) := by decide +kernel
theorem dL_law_775 : decode code 775 = .ok (.iaload, 1) := by decide +kernel
theorem dL_law_776 : decode code 776 = .ok (.aload_n 0, 1) := by decide +kernel
theorem dL_law_777 : decode code 777 = .ok (.iload 4, 2) := by decide +kernel
theorem dL_law_779 : decode code 779 = .ok (.iconst 2, 1) := by decide +kernel
theorem dL_law_780 : decode code 780 = .ok (.iadd, 1) := by decide +kernel
theorem dL_law_781 : decode code 781 = .ok (.iaload, 1) := by decide +kernel
theorem dL_law_782 : decode code 782 = .ok (.aload_n 0, 1) := by decide +kernel
theorem dL_law_783 : decode code 783 = .ok (.iload 4, 2) := by decide +kernel
theorem dL_law_785 : decode code 785 = .ok (.iconst 3, 1) := by decide +kernel
theorem dL_law_786 : decode code 786 = .ok (.iadd, 1) := by decide +kernel
theorem dL_law_787 : decode code 787 = .ok (.iaload, 1) := by decide +kernel
theorem dL_law_788 : decode code 788 = .ok (.invokevirtual 93, 3) := by decide +kernel
theorem dL_law_791 : decode code 791 = .ok (.aload_n 2, 1) := by decide +kernel
theorem dL_law_792 : decode code 792 = .ok (.aload_n 0, 1) := by decide +kernel
theorem dL_law_793 : decode code 793 = .ok (.iload 4, 2) := by decide +kernel
theorem dL_law_795 : decode code 795 = .ok (.iconst 1, 1) := by decide +kernel
theorem dL_law_796 : decode code 796 = .ok (.iadd, 1) := by decide +kernel
theorem dL_law_797 : decode code 797 = .ok (.iaload, 1) := by decide +kernel
theorem dL_law_798 : decode code 798 = .ok (.aload_n 0, 1) := by decide +kernel
theorem dL_law_799 : decode code 799 = .ok (.iload 4, 2) := by decide +kernel
theorem dL_law_801 : decode code 801 = .ok (.iconst 2, 1) := by decide +kernel
theorem dL_law_802 : decode code 802 = .ok (.iadd, 1) := by decide +kernel
theorem dL_law_803 : decode code 803 = .ok (.iaload, 1) := by decide +kernel
theorem dL_law_804 : decode code 804 = .ok (.aload_n 0, 1) := by decide +kernel
theorem dL_law_805 : decode code 805 = .ok (.iload 4, 2) := by decide +kernel
theorem dL_law_807 : decode code 807 = .ok (.iconst 3, 1) := by decide +kernel
theorem dL_law_808 : decode code 808 = .ok (.iadd, 1) := by decide +kernel
theorem dL_law_809 : decode code 809 = .ok (.iaload, 1) := by decide +kernel
theorem dL_law_810 : decode code 810 = .ok (.invokevirtual 96, 3) := by decide +kernel
theorem dL_law_813 : decode code 813 = .ok (.if_icmp .eq 637, 3) := by decide +kernel
theorem dL_law_816 : decode code 816 = .ok (.iconst 0, 1) := by decide +kernel
theorem dL_law_818 : decode code 818 = .ok (.aload_n 1, 1) := by decide +kernel
theorem dL_law_819 : decode code 819 = .ok (.invokevirtual 97, 3) := by decide +kernel
theorem dL_law_822 : decode code 822 = .ok (.aload_n 2, 1) := by decide +kernel
theorem dL_law_823 : decode code 823 = .ok (.invokevirtual 100, 3) := by decide +kernel
theorem dL_law_826 : decode code 826 = .ok (.if_icmp .eq 624, 3) := by decide +kernel
theorem dL_law_829 : decode code 829 = .ok (.iconst 0, 1) := by decide +kernel
theorem dL_law_831 : decode code 831 = .ok (.aload_n 1, 1) := by decide +kernel
theorem dL_law_832 : decode code 832 = .ok (.aload_n 0, 1) := by decide +kernel
theorem dL_law_833 : decode code 833 = .ok (.iload 4, 2) := by decide +kernel
theorem dL_law_835 : decode code 835 = .ok (.iconst 1, 1) := by decide +kernel
theorem dL_law_836 : decode code 836 = .ok (.iadd, 1) := by decide +kernel
theorem dL_law_837 : decode code 837 = .ok (.iaload, 1) := by decide +kernel
theorem dL_law_838 : decode code 838 = .ok (.invokevirtual 101, 3) := by decide +kernel
theorem dL_law_841 : decode code 841 = .ok (.aload_n 2, 1) := by decide +kernel
theorem dL_law_842 : decode code 842 = .ok (.aload_n 0, 1) := by decide +kernel
theorem dL_law_843 : decode code 843 = .ok (.iload 4, 2) := by decide +kernel
theorem dL_law_845 : decode code 845 = .ok (.iconst 1, 1) := by decide +kernel
theorem dL_law_846 : decode code 846 = .ok (.iadd, 1) := by decide +kernel
theorem dL_law_847 : decode code 847 = .ok (.iaload, 1) := by decide +kernel
theorem dL_law_848 : decode code 848 = .ok (.invokevirtual 104, 3) := by decide +kernel
theorem dL_law_851 : decode code 851 = .ok (.if_icmp .eq 599, 3) := by decide +kernel
theorem dL_law_854 : decode code 854 = .ok (.iconst 0, 1) := by decide +kernel
theorem dL_law_856 : decode code 856 = .ok (.aload_n 1, 1) := by decide +kernel
theorem dL_law_857 : decode code 857 = .ok (.aload_n 0, 1) := by decide +kernel
theorem dL_law_858 : decode code 858 = .ok (.iload 4, 2) := by decide +kernel
theorem dL_law_860 : decode code 860 = .ok (.iconst 1, 1) := by decide +kernel
theorem dL_law_861 : decode code 861 = .ok (.iadd, 1) := by decide +kernel
theorem dL_law_862 : decode code 862 = .ok (.iaload, 1) := by decide +kernel
theorem dL_law_863 : decode code 863 = .ok (.aload_n 0, 1) := by decide +kernel
theorem dL_law_864 : decode code 864 = .ok (.iload 4, 2) := by decide +kernel
theorem dL_law_866 : decode code 866 = .ok (.iconst 2, 1) := by decide +kernel
theorem dL_law_867 : decode code 867 = .ok (.iadd, 1) := by decide +kernel
theorem dL_law_868 : decode code 868 = .ok (.iaload, 1) := by decide +kernel
theorem dL_law_869 : decode code 869 = .ok (.aload_n 0, 1) := by decide +kernel
theorem dL_law_870 : decode code 870 = .ok (.iload 4, 2) := by decide +kernel
theorem dL_law_872 : decode code 872 = .ok (.iconst 3, 1) := by decide +kernel
theorem dL_law_873 : decode code 873 = .ok (.iadd, 1) := by decide +kernel
theorem dL_law_874 : decode code 874 = .ok (.iaload, 1) := by decide +kernel
theorem dL_law_875 : decode code 875 = .ok (.aload_n 0, 1) := by decide +kernel
theorem dL_law_876 : decode code 876 = .ok (.iload 4, 2) := by decide +kernel
theorem dL_law_878 : decode code 878 = .ok (.iconst 4, 1) := by decide +kernel
theorem dL_law_879 : decode code 879 = .ok (.iadd, 1) := by decide +kernel
theorem dL_law_880 : decode code 880 = .ok (.iaload, 1) := by decide +kernel
theorem dL_law_881 : decode code 881 = .ok (.ifCond .eq 7, 3) := by decide +kernel
theorem dL_law_884 : decode code 884 = .ok (.iconst 1, 1) := by decide +kernel
theorem dL_law_885 : decode code 885 = .ok (.goto 4, 3) := by decide +kernel
theorem dL_law_888 : decode code 888 = .ok (.iconst 0, 1) := by decide +kernel
theorem dL_law_889 : decode code 889 = .ok (.invokevirtual 105, 3) := by decide +kernel
theorem dL_law_892 : decode code 892 = .ok (.aload_n 2, 1) := by decide +kernel
theorem dL_law_893 : decode code 893 = .ok (.aload_n 0, 1) := by decide +kernel
theorem dL_law_894 : decode code 894 = .ok (.iload 4, 2) := by decide +kernel
theorem dL_law_896 : decode code 896 = .ok (.iconst 1, 1) := by decide +kernel
theorem dL_law_897 : decode code 897 = .ok (.iadd, 1) := by decide +kernel
theorem dL_law_898 : decode code 898 = .ok (.iaload, 1) := by decide +kernel
theorem dL_law_899 : decode code 899 = .ok (.aload_n 0, 1) := by decide +kernel
theorem dL_law_900 : decode code 900 = .ok (.iload 4, 2) := by decide +kernel
theorem dL_law_902 : decode code 902 = .ok (.iconst 2, 1) := by decide +kernel
theorem dL_law_903 : decode code 903 = .ok (.iadd, 1) := by decide +kernel
theorem dL_law_904 : decode code 904 = .ok (.iaload, 1) := by decide +kernel
theorem dL_law_905 : decode code 905 = .ok (.aload_n 0, 1) := by decide +kernel
theorem dL_law_906 : decode code 906 = .ok (.iload 4, 2) := by decide +kernel
theorem dL_law_908 : decode code 908 = .ok (.iconst 3, 1) := by decide +kernel
theorem dL_law_909 : decode code 909 = .ok (.iadd, 1) := by decide +kernel
theorem dL_law_910 : decode code 910 = .ok (.iaload, 1) := by decide +kernel
theorem dL_law_911 : decode code 911 = .ok (.aload_n 0, 1) := by decide +kernel
theorem dL_law_912 : decode code 912 = .ok (.iload 4, 2) := by decide +kernel
theorem dL_law_914 : decode code 914 = .ok (.iconst 4, 1) := by decide +kernel
theorem dL_law_915 : decode code 915 = .ok (.iadd, 1) := by decide +kernel
theorem dL_law_916 : decode code 916 = .ok (.iaload, 1) := by decide +kernel
theorem dL_law_917 : decode code 917 = .ok (.ifCond .eq 7, 3) := by decide +kernel
theorem dL_law_920 : decode code 920 = .ok (.iconst 1, 1) := by decide +kernel
theorem dL_law_921 : decode code 921 = .ok (.goto 4, 3) := by decide +kernel
theorem dL_law_924 : decode code 924 = .ok (.iconst 0, 1) := by decide +kernel
theorem dL_law_925 : decode code 925 = .ok (.invokevirtual 109, 3) := by decide +kernel
theorem dL_law_928 : decode code 928 = .ok (.if_icmp .eq 522, 3) := by decide +kernel
theorem dL_law_931 : decode code 931 = .ok (.iconst 0, 1) := by decide +kernel
theorem dL_law_933 : decode code 933 = .ok (.aload_n 1, 1) := by decide +kernel
theorem dL_law_934 : decode code 934 = .ok (.aload_n 0, 1) := by decide +kernel
theorem dL_law_935 : decode code 935 = .ok (.iload 4, 2) := by decide +kernel
theorem dL_law_937 : decode code 937 = .ok (.iconst 1, 1) := by decide +kernel
theorem dL_law_938 : decode code 938 = .ok (.iadd, 1) := by decide +kernel
theorem dL_law_939 : decode code 939 = .ok (.iaload, 1) := by decide +kernel
theorem dL_law_940 : decode code 940 = .ok (.aload_n 0, 1) := by decide +kernel
theorem dL_law_941 : decode code 941 = .ok (.iload 4, 2) := by decide +kernel
theorem dL_law_943 : decode code 943 = .ok (.iconst 2, 1) := by decide +kernel
theorem dL_law_944 : decode code 944 = .ok (.iadd, 1) := by decide +kernel
theorem dL_law_945 : decode code 945 = .ok (.iaload, 1) := by decide +kernel
theorem dL_law_946 : decode code 946 = .ok (.aload_n 0, 1) := by decide +kernel
theorem dL_law_947 : decode code 947 = .ok (.iload 4, 2) := by decide +kernel
theorem dL_law_949 : decode code 949 = .ok (.iconst 3, 1) := by decide +kernel
theorem dL_law_950 : decode code 950 = .ok (.iadd, 1) := by decide +kernel
theorem dL_law_951 : decode code 951 = .ok (.iaload, 1) := by decide +kernel
theorem dL_law_952 : decode code 952 = .ok (.invokevirtual 110, 3) := by decide +kernel
theorem dL_law_955 : decode code 955 = .ok (.aload_n 2, 1) := by decide +kernel
theorem dL_law_956 : decode code 956 = .ok (.aload_n 0, 1) := by decide +kernel
theorem dL_law_957 : decode code 957 = .ok (.iload 4, 2) := by decide +kernel
theorem dL_law_959 : decode code 959 = .ok (.iconst 1, 1) := by decide +kernel
theorem dL_law_960 : decode code 960 = .ok (.iadd, 1) := by decide +kernel
theorem dL_law_961 : decode code 961 = .ok (.iaload, 1) := by decide +kernel
theorem dL_law_962 : decode code 962 = .ok (.aload_n 0, 1) := by decide +kernel
theorem dL_law_963 : decode code 963 = .ok (.iload 4, 2) := by decide +kernel
theorem dL_law_965 : decode code 965 = .ok (.iconst 2, 1) := by decide +kernel
theorem dL_law_966 : decode code 966 = .ok (.iadd, 1) := by decide +kernel
theorem dL_law_967 : decode code 967 = .ok (.iaload, 1) := by decide +kernel
theorem dL_law_968 : decode code 968 = .ok (.aload_n 0, 1) := by decide +kernel
theorem dL_law_969 : decode code 969 = .ok (.iload 4, 2) := by decide +kernel
theorem dL_law_971 : decode code 971 = .ok (.iconst 3, 1) := by decide +kernel
theorem dL_law_972 : decode code 972 = .ok (.iadd, 1) := by decide +kernel
theorem dL_law_973 : decode code 973 = .ok (.iaload, 1) := by decide +kernel
theorem dL_law_974 : decode code 974 = .ok (.invokevirtual 113, 3) := by decide +kernel
theorem dL_law_977 : decode code 977 = .ok (.if_icmp .eq 473, 3) := by decide +kernel
theorem dL_law_980 : decode code 980 = .ok (.iconst 0, 1) := by decide +kernel
theorem dL_law_982 : decode code 982 = .ok (.aload_n 1, 1) := by decide +kernel
theorem dL_law_983 : decode code 983 = .ok (.aload_n 0, 1) := by decide +kernel
theorem dL_law_984 : decode code 984 = .ok (.iload 4, 2) := by decide +kernel
theorem dL_law_986 : decode code 986 = .ok (.iconst 1, 1) := by decide +kernel
theorem dL_law_987 : decode code 987 = .ok (.iadd, 1) := by decide +kernel
theorem dL_law_988 : decode code 988 = .ok (.iaload, 1) := by decide +kernel
theorem dL_law_989 : decode code 989 = .ok (.aload_n 0, 1) := by decide +kernel
theorem dL_law_990 : decode code 990 = .ok (.iload 4, 2) := by decide +kernel
theorem dL_law_992 : decode code 992 = .ok (.iconst 2, 1) := by decide +kernel
theorem dL_law_993 : decode code 993 = .ok (.iadd, 1) := by decide +kernel
theorem dL_law_994 : decode code 994 = .ok (.iaload, 1) := by decide +kernel
theorem dL_law_995 : decode code 995 = .ok (.aload_n 0, 1) := by decide +kernel
theorem dL_law_996 : decode code 996 = .ok (.iload 4, 2) := by decide +kernel
theorem dL_law_998 : decode code 998 = .ok (.iconst 3, 1) := by decide +kernel
theorem dL_law_999 : decode code 999 = .ok (.iadd, 1) := by decide +kernel
theorem dL_law_1000 : decode code 1000 = .ok (.iaload, 1) := by decide +kernel
theorem dL_law_1001 : decode code 1001 = .ok (.invokevirtual 114, 3) := by decide +kernel
theorem dL_law_1004 : decode code 1004 = .ok (.aload_n 2, 1) := by decide +kernel
theorem dL_law_1005 : decode code 1005 = .ok (.aload_n 0, 1) := by decide +kernel
theorem dL_law_1006 : decode code 1006 = .ok (.iload 4, 2) := by decide +kernel
theorem dL_law_1008 : decode code 1008 = .ok (.iconst 1, 1) := by decide +kernel
theorem dL_law_1009 : decode code 1009 = .ok (.iadd, 1) := by decide +kernel
theorem dL_law_1010 : decode code 1010 = .ok (.iaload, 1) := by decide +kernel
theorem dL_law_1011 : decode code 1011 = .ok (.aload_n 0, 1) := by decide +kernel
theorem dL_law_1012 : decode code 1012 = .ok (.iload 4, 2) := by decide +kernel
theorem dL_law_1014 : decode code 1014 = .ok (.iconst 2, 1) := by decide +kernel
theorem dL_law_1015 : decode code 1015 = .ok (.iadd, 1) := by decide +kernel
theorem dL_law_1016 : decode code 1016 = .ok (.iaload, 1) := by decide +kernel
theorem dL_law_1017 : decode code 1017 = .ok (.aload_n 0, 1) := by decide +kernel
theorem dL_law_1018 : decode code 1018 = .ok (.iload 4, 2) := by decide +kernel
theorem dL_law_1020 : decode code 1020 = .ok (.iconst 3, 1) := by decide +kernel
theorem dL_law_1021 : decode code 1021 = .ok (.iadd, 1) := by decide +kernel
theorem dL_law_1022 : decode code 1022 = .ok (.iaload, 1) := by decide +kernel
theorem dL_law_1023 : decode code 1023 = .ok (.invokevirtual 117, 3) := by decide +kernel
theorem dL_law_1026 : decode code 1026 = .ok (.if_icmp .eq 424, 3) := by decide +kernel
theorem dL_law_1029 : decode code 1029 = .ok (.iconst 0, 1) := by decide +kernel
theorem dL_law_1031 : decode code 1031 = .ok (.aload_n 1, 1) := by decide +kernel
theorem dL_law_1032 : decode code 1032 = .ok (.invokevirtual 118, 3) := by decide +kernel
theorem dL_law_1035 : decode code 1035 = .ok (.aload_n 2, 1) := by decide +kernel
theorem dL_law_1036 : decode code 1036 = .ok (.invokevirtual 122, 3) := by decide +kernel
theorem dL_law_1039 : decode code 1039 = .ok (.if_icmp .eq 411, 3) := by decide +kernel
theorem dL_law_1042 : decode code 1042 = .ok (.iconst 0, 1) := by decide +kernel
theorem dL_law_1044 : decode code 1044 = .ok (.aload_n 1, 1) := by decide +kernel
theorem dL_law_1045 : decode code 1045 = .ok (.aload_n 0, 1) := by decide +kernel
theorem dL_law_1046 : decode code 1046 = .ok (.iload 4, 2) := by decide +kernel
theorem dL_law_1048 : decode code 1048 = .ok (.iconst 1, 1) := by decide +kernel
theorem dL_law_1049 : decode code 1049 = .ok (.iadd, 1) := by decide +kernel
theorem dL_law_1050 : decode code 1050 = .ok (.iaload, 1) := by decide +kernel
theorem dL_law_1051 : decode code 1051 = .ok (.invokevirtual 123, 3) := by decide +kernel
theorem dL_law_1054 : decode code 1054 = .ok (.aload_n 2, 1) := by decide +kernel
theorem dL_law_1055 : decode code 1055 = .ok (.aload_n 0, 1) := by decide +kernel
theorem dL_law_1056 : decode code 1056 = .ok (.iload 4, 2) := by decide +kernel
theorem dL_law_1058 : decode code 1058 = .ok (.iconst 1, 1) := by decide +kernel
theorem dL_law_1059 : decode code 1059 = .ok (.iadd, 1) := by decide +kernel
theorem dL_law_1060 : decode code 1060 = .ok (.iaload, 1) := by decide +kernel
theorem dL_law_1061 : decode code 1061 = .ok (.invokevirtual 126, 3) := by decide +kernel
theorem dL_law_1064 : decode code 1064 = .ok (.if_icmp .eq 386, 3) := by decide +kernel
theorem dL_law_1067 : decode code 1067 = .ok (.iconst 0, 1) := by decide +kernel
theorem dL_law_1069 : decode code 1069 = .ok (.aload_n 1, 1) := by decide +kernel
theorem dL_law_1070 : decode code 1070 = .ok (.aload_n 0, 1) := by decide +kernel
theorem dL_law_1071 : decode code 1071 = .ok (.iload 4, 2) := by decide +kernel
theorem dL_law_1073 : decode code 1073 = .ok (.iconst 1, 1) := by decide +kernel
theorem dL_law_1074 : decode code 1074 = .ok (.iadd, 1) := by decide +kernel
theorem dL_law_1075 : decode code 1075 = .ok (.iaload, 1) := by decide +kernel
theorem dL_law_1076 : decode code 1076 = .ok (.aload_n 0, 1) := by decide +kernel
theorem dL_law_1077 : decode code 1077 = .ok (.iload 4, 2) := by decide +kernel
theorem dL_law_1079 : decode code 1079 = .ok (.iconst 2, 1) := by decide +kernel
theorem dL_law_1080 : decode code 1080 = .ok (.iadd, 1) := by decide +kernel
theorem dL_law_1081 : decode code 1081 = .ok (.iaload, 1) := by decide +kernel
theorem dL_law_1082 : decode code 1082 = .ok (.aload_n 0, 1) := by decide +kernel
theorem dL_law_1083 : decode code 1083 = .ok (.iload 4, 2) := by decide +kernel
theorem dL_law_1085 : decode code 1085 = .ok (.iconst 3, 1) := by decide +kernel
theorem dL_law_1086 : decode code 1086 = .ok (.iadd, 1) := by decide +kernel
theorem dL_law_1087 : decode code 1087 = .ok (.iaload, 1) := by decide +kernel
theorem dL_law_1088 : decode code 1088 = .ok (.invokevirtual 127, 3) := by decide +kernel
theorem dL_law_1091 : decode code 1091 = .ok (.aload_n 2, 1) := by decide +kernel
theorem dL_law_1092 : decode code 1092 = .ok (.aload_n 0, 1) := by decide +kernel
theorem dL_law_1093 : decode code 1093 = .ok (.iload 4, 2) := by decide +kernel
theorem dL_law_1095 : decode code 1095 = .ok (.iconst 1, 1) := by decide +kernel
theorem dL_law_1096 : decode code 1096 = .ok (.iadd, 1) := by decide +kernel
theorem dL_law_1097 : decode code 1097 = .ok (.iaload, 1) := by decide +kernel
theorem dL_law_1098 : decode code 1098 = .ok (.aload_n 0, 1) := by decide +kernel
theorem dL_law_1099 : decode code 1099 = .ok (.iload 4, 2) := by decide +kernel
theorem dL_law_1101 : decode code 1101 = .ok (.iconst 2, 1) := by decide +kernel
theorem dL_law_1102 : decode code 1102 = .ok (.iadd, 1) := by decide +kernel
theorem dL_law_1103 : decode code 1103 = .ok (.iaload, 1) := by decide +kernel
theorem dL_law_1104 : decode code 1104 = .ok (.aload_n 0, 1) := by decide +kernel
theorem dL_law_1105 : decode code 1105 = .ok (.iload 4, 2) := by decide +kernel
theorem dL_law_1107 : decode code 1107 = .ok (.iconst 3, 1) := by decide +kernel
theorem dL_law_1108 : decode code 1108 = .ok (.iadd, 1) := by decide +kernel
theorem dL_law_1109 : decode code 1109 = .ok (.iaload, 1) := by decide +kernel
theorem dL_law_1110 : decode code 1110 = .ok (.invokevirtual 130, 3) := by decide +kernel
theorem dL_law_1113 : decode code 1113 = .ok (.if_icmp .eq 337, 3) := by decide +kernel
theorem dL_law_1116 : decode code 1116 = .ok (.iconst 0, 1) := by decide +kernel
theorem dL_law_1118 : decode code 1118 = .ok (.aload_n 1, 1) := by decide +kernel
theorem dL_law_1119 : decode code 1119 = .ok (.aload_n 0, 1) := by decide +kernel
theorem dL_law_1120 : decode code 1120 = .ok (.iload 4, 2) := by decide +kernel
theorem dL_law_1122 : decode code 1122 = .ok (.iconst 1, 1) := by decide +kernel
theorem dL_law_1123 : decode code 1123 = .ok (.iadd, 1) := by decide +kernel
theorem dL_law_1124 : decode code 1124 = .ok (.iaload, 1) := by decide +kernel
theorem dL_law_1125 : decode code 1125 = .ok (.invokevirtual 131, 3) := by decide +kernel
theorem dL_law_1128 : decode code 1128 = .ok (.aload_n 2, 1) := by decide +kernel
theorem dL_law_1129 : decode code 1129 = .ok (.aload_n 0, 1) := by decide +kernel
theorem dL_law_1130 : decode code 1130 = .ok (.iload 4, 2) := by decide +kernel
theorem dL_law_1132 : decode code 1132 = .ok (.iconst 1, 1) := by decide +kernel
theorem dL_law_1133 : decode code 1133 = .ok (.iadd, 1) := by decide +kernel
theorem dL_law_1134 : decode code 1134 = .ok (.iaload, 1) := by decide +kernel
theorem dL_law_1135 : decode code 1135 = .ok (.invokevirtual 134, 3) := by decide +kernel
theorem dL_law_1138 : decode code 1138 = .ok (.if_icmp .eq 312, 3) := by decide +kernel
theorem dL_law_1141 : decode code 1141 = .ok (.iconst 0, 1) := by decide +kernel
theorem dL_law_1143 : decode code 1143 = .ok (.aload_n 1, 1) := by decide +kernel
theorem dL_law_1144 : decode code 1144 = .ok (.invokevirtual 135, 3) := by decide +kernel
theorem dL_law_1147 : decode code 1147 = .ok (.aload_n 2, 1) := by decide +kernel
theorem dL_law_1148 : decode code 1148 = .ok (.invokevirtual 138, 3) := by decide +kernel
theorem dL_law_1151 : decode code 1151 = .ok (.if_icmp .eq 299, 3) := by decide +kernel
theorem dL_law_1154 : decode code 1154 = .ok (.iconst 0, 1) := by decide +kernel
theorem dL_law_1156 : decode code 1156 = .ok (.aload_n 1, 1) := by decide +kernel
theorem dL_law_1157 : decode code 1157 = .ok (.aload_n 0, 1) := by decide +kernel
theorem dL_law_1158 : decode code 1158 = .ok (.iload 4, 2) := by decide +kernel
theorem dL_law_1160 : decode code 1160 = .ok (.iconst 1, 1) := by decide +kernel
theorem dL_law_1161 : decode code 1161 = .ok (.iadd, 1) := by decide +kernel
theorem dL_law_1162 : decode code 1162 = .ok (.iaload, 1) := by decide +kernel
theorem dL_law_1163 : decode code 1163 = .ok (.invokevirtual 139, 3) := by decide +kernel
theorem dL_law_1166 : decode code 1166 = .ok (.aload_n 2, 1) := by decide +kernel
theorem dL_law_1167 : decode code 1167 = .ok (.aload_n 0, 1) := by decide +kernel
theorem dL_law_1168 : decode code 1168 = .ok (.iload 4, 2) := by decide +kernel
theorem dL_law_1170 : decode code 1170 = .ok (.iconst 1, 1) := by decide +kernel
theorem dL_law_1171 : decode code 1171 = .ok (.iadd, 1) := by decide +kernel
theorem dL_law_1172 : decode code 1172 = .ok (.iaload, 1) := by decide +kernel
theorem dL_law_1173 : decode code 1173 = .ok (.invokevirtual 142, 3) := by decide +kernel
theorem dL_law_1176 : decode code 1176 = .ok (.if_icmp .eq 274, 3) := by decide +kernel
theorem dL_law_1179 : decode code 1179 = .ok (.iconst 0, 1) := by decide +kernel
theorem dL_law_1181 : decode code 1181 = .ok (.aload_n 1, 1) := by decide +kernel
theorem dL_law_1182 : decode code 1182 = .ok (.invokevirtual 143, 3) := by decide +kernel
theorem dL_law_1185 : decode code 1185 = .ok (.aload_n 2, 1) := by decide +kernel
theorem dL_law_1186 : decode code 1186 = .ok (.invokevirtual 146, 3) := by decide +kernel
theorem dL_law_1189 : decode code 1189 = .ok (.if_icmp .eq 261, 3) := by decide +kernel
theorem dL_law_1192 : decode code 1192 = .ok (.iconst 0, 1) := by decide +kernel
theorem dL_law_1194 : decode code 1194 = .ok (.aload_n 1, 1) := by decide +kernel
theorem dL_law_1195 : decode code 1195 = .ok (.aload_n 0, 1) := by decide +kernel
theorem dL_law_1196 : decode code 1196 = .ok (.iload 4, 2) := by decide +kernel
theorem dL_law_1198 : decode code 1198 = .ok (.iconst 1, 1) := by decide +kernel
theorem dL_law_1199 : decode code 1199 = .ok (.iadd, 1) := by decide +kernel
theorem dL_law_1200 : decode code 1200 = .ok (.iaload, 1) := by decide +kernel
theorem dL_law_1201 : decode code 1201 = .ok (.aload_n 0, 1) := by decide +kernel
theorem dL_law_1202 : decode code 1202 = .ok (.iload 4, 2) := by decide +kernel
theorem dL_law_1204 : decode code 1204 = .ok (.iconst 2, 1) := by decide +kernel
theorem dL_law_1205 : decode code 1205 = .ok (.iadd, 1) := by decide +kernel
theorem dL_law_1206 : decode code 1206 = .ok (.iaload, 1) := by decide +kernel
theorem dL_law_1207 : decode code 1207 = .ok (.invokevirtual 147, 3) := by decide +kernel
theorem dL_law_1210 : decode code 1210 = .ok (.aload_n 2, 1) := by decide +kernel
theorem dL_law_1211 : decode code 1211 = .ok (.aload_n 0, 1) := by decide +kernel
theorem dL_law_1212 : decode code 1212 = .ok (.iload 4, 2) := by decide +kernel
theorem dL_law_1214 : decode code 1214 = .ok (.iconst 1, 1) := by decide +kernel
theorem dL_law_1215 : decode code 1215 = .ok (.iadd, 1) := by decide +kernel
theorem dL_law_1216 : decode code 1216 = .ok (.iaload, 1) := by decide +kernel
theorem dL_law_1217 : decode code 1217 = .ok (.aload_n 0, 1) := by decide +kernel
theorem dL_law_1218 : decode code 1218 = .ok (.iload 4, 2) := by decide +kernel
theorem dL_law_1220 : decode code 1220 = .ok (.iconst 2, 1) := by decide +kernel
theorem dL_law_1221 : decode code 1221 = .ok (.iadd, 1) := by decide +kernel
theorem dL_law_1222 : decode code 1222 = .ok (.iaload, 1) := by decide +kernel
theorem dL_law_1223 : decode code 1223 = .ok (.invokevirtual 150, 3) := by decide +kernel
theorem dL_law_1226 : decode code 1226 = .ok (.if_icmp .eq 224, 3) := by decide +kernel
theorem dL_law_1229 : decode code 1229 = .ok (.iconst 0, 1) := by decide +kernel
theorem dL_law_1231 : decode code 1231 = .ok (.aload_n 1, 1) := by decide +kernel
theorem dL_law_1232 : decode code 1232 = .ok (.aload_n 0, 1) := by decide +kernel
theorem dL_law_1233 : decode code 1233 = .ok (.iload 4, 2) := by decide +kernel
theorem dL_law_1235 : decode code 1235 = .ok (.iconst 1, 1) := by decide +kernel
theorem dL_law_1236 : decode code 1236 = .ok (.iadd, 1) := by decide +kernel
theorem dL_law_1237 : decode code 1237 = .ok (.iaload, 1) := by decide +kernel
theorem dL_law_1238 : decode code 1238 = .ok (.aload_n 0, 1) := by decide +kernel
theorem dL_law_1239 : decode code 1239 = .ok (.iload 4, 2) := by decide +kernel
theorem dL_law_1241 : decode code 1241 = .ok (.iconst 2, 1) := by decide +kernel
theorem dL_law_1242 : decode code 1242 = .ok (.iadd, 1) := by decide +kernel
theorem dL_law_1243 : decode code 1243 = .ok (.iaload, 1) := by decide +kernel
theorem dL_law_1244 : decode code 1244 = .ok (.invokevirtual 151, 3) := by decide +kernel
theorem dL_law_1247 : decode code 1247 = .ok (.aload_n 2, 1) := by decide +kernel
theorem dL_law_1248 : decode code 1248 = .ok (.aload_n 0, 1) := by decide +kernel
theorem dL_law_1249 : decode code 1249 = .ok (.iload 4, 2) := by decide +kernel
theorem dL_law_1251 : decode code 1251 = .ok (.iconst 1, 1) := by decide +kernel
theorem dL_law_1252 : decode code 1252 = .ok (.iadd, 1) := by decide +kernel
theorem dL_law_1253 : decode code 1253 = .ok (.iaload, 1) := by decide +kernel
theorem dL_law_1254 : decode code 1254 = .ok (.aload_n 0, 1) := by decide +kernel
theorem dL_law_1255 : decode code 1255 = .ok (.iload 4, 2) := by decide +kernel
theorem dL_law_1257 : decode code 1257 = .ok (.iconst 2, 1) := by decide +kernel
theorem dL_law_1258 : decode code 1258 = .ok (.iadd, 1) := by decide +kernel
theorem dL_law_1259 : decode code 1259 = .ok (.iaload, 1) := by decide +kernel
theorem dL_law_1260 : decode code 1260 = .ok (.invokevirtual 154, 3) := by decide +kernel
theorem dL_law_1263 : decode code 1263 = .ok (.if_icmp .eq 187, 3) := by decide +kernel
theorem dL_law_1266 : decode code 1266 = .ok (.iconst 0, 1) := by decide +kernel
theorem dL_law_1268 : decode code 1268 = .ok (.aload_n 1, 1) := by decide +kernel
theorem dL_law_1269 : decode code 1269 = .ok (.invokevirtual 155, 3) := by decide +kernel
theorem dL_law_1272 : decode code 1272 = .ok (.aload_n 2, 1) := by decide +kernel
theorem dL_law_1273 : decode code 1273 = .ok (.invokevirtual 158, 3) := by decide +kernel
theorem dL_law_1276 : decode code 1276 = .ok (.if_icmp .eq 174, 3) := by decide +kernel
theorem dL_law_1279 : decode code 1279 = .ok (.iconst 0, 1) := by decide +kernel
theorem dL_law_1281 : decode code 1281 = .ok (.aload_n 1, 1) := by decide +kernel
theorem dL_law_1282 : decode code 1282 = .ok (.aload_n 0, 1) := by decide +kernel
theorem dL_law_1283 : decode code 1283 = .ok (.iload 4, 2) := by decide +kernel
theorem dL_law_1285 : decode code 1285 = .ok (.iconst 1, 1) := by decide +kernel
theorem dL_law_1286 : decode code 1286 = .ok (.iadd, 1) := by decide +kernel
theorem dL_law_1287 : decode code 1287 = .ok (.iaload, 1) := by decide +kernel
theorem dL_law_1288 : decode code 1288 = .ok (.invokevirtual 159, 3) := by decide +kernel
theorem dL_law_1291 : decode code 1291 = .ok (.aload_n 2, 1) := by decide +kernel
theorem dL_law_1292 : decode code 1292 = .ok (.aload_n 0, 1) := by decide +kernel
theorem dL_law_1293 : decode code 1293 = .ok (.iload 4, 2) := by decide +kernel
theorem dL_law_1295 : decode code 1295 = .ok (.iconst 1, 1) := by decide +kernel
theorem dL_law_1296 : decode code 1296 = .ok (.iadd, 1) := by decide +kernel
theorem dL_law_1297 : decode code 1297 = .ok (.iaload, 1) := by decide +kernel
theorem dL_law_1298 : decode code 1298 = .ok (.invokevirtual 162, 3) := by decide +kernel
theorem dL_law_1301 : decode code 1301 = .ok (.if_icmp .eq 149, 3) := by decide +kernel
theorem dL_law_1304 : decode code 1304 = .ok (.iconst 0, 1) := by decide +kernel
theorem dL_law_1306 : decode code 1306 = .ok (.aload_n 1, 1) := by decide +kernel
theorem dL_law_1307 : decode code 1307 = .ok (.aload_n 0, 1) := by decide +kernel
theorem dL_law_1308 : decode code 1308 = .ok (.iload 4, 2) := by decide +kernel
theorem dL_law_1310 : decode code 1310 = .ok (.iconst 1, 1) := by decide +kernel
theorem dL_law_1311 : decode code 1311 = .ok (.iadd, 1) := by decide +kernel
theorem dL_law_1312 : decode code 1312 = .ok (.iaload, 1) := by decide +kernel
theorem dL_law_1313 : decode code 1313 = .ok (.invokevirtual 163, 3) := by decide +kernel
theorem dL_law_1316 : decode code 1316 = .ok (.aload_n 2, 1) := by decide +kernel
theorem dL_law_1317 : decode code 1317 = .ok (.aload_n 0, 1) := by decide +kernel
theorem dL_law_1318 : decode code 1318 = .ok (.iload 4, 2) := by decide +kernel
theorem dL_law_1320 : decode code 1320 = .ok (.iconst 1, 1) := by decide +kernel
theorem dL_law_1321 : decode code 1321 = .ok (.iadd, 1) := by decide +kernel
theorem dL_law_1322 : decode code 1322 = .ok (.iaload, 1) := by decide +kernel
theorem dL_law_1323 : decode code 1323 = .ok (.invokevirtual 166, 3) := by decide +kernel
theorem dL_law_1326 : decode code 1326 = .ok (.if_icmp .eq 124, 3) := by decide +kernel
theorem dL_law_1329 : decode code 1329 = .ok (.iconst 0, 1) := by decide +kernel
theorem dL_law_1331 : decode code 1331 = .ok (.aload_n 1, 1) := by decide +kernel
theorem dL_law_1332 : decode code 1332 = .ok (.aload_n 0, 1) := by decide +kernel
theorem dL_law_1333 : decode code 1333 = .ok (.iload 4, 2) := by decide +kernel
theorem dL_law_1335 : decode code 1335 = .ok (.iconst 1, 1) := by decide +kernel
theorem dL_law_1336 : decode code 1336 = .ok (.iadd, 1) := by decide +kernel
theorem dL_law_1337 : decode code 1337 = .ok (.iaload, 1) := by decide +kernel
theorem dL_law_1338 : decode code 1338 = .ok (.invokevirtual 167, 3) := by decide +kernel
theorem dL_law_1341 : decode code 1341 = .ok (.aload_n 2, 1) := by decide +kernel
theorem dL_law_1342 : decode code 1342 = .ok (.aload_n 0, 1) := by decide +kernel
theorem dL_law_1343 : decode code 1343 = .ok (.iload 4, 2) := by decide +kernel
theorem dL_law_1345 : decode code 1345 = .ok (.iconst 1, 1) := by decide +kernel
theorem dL_law_1346 : decode code 1346 = .ok (.iadd, 1) := by decide +kernel
theorem dL_law_1347 : decode code 1347 = .ok (.iaload, 1) := by decide +kernel
theorem dL_law_1348 : decode code 1348 = .ok (.invokevirtual 170, 3) := by decide +kernel
theorem dL_law_1351 : decode code 1351 = .ok (.if_icmp .eq 99, 3) := by decide +kernel
theorem dL_law_1354 : decode code 1354 = .ok (.iconst 0, 1) := by decide +kernel
theorem dL_law_1412 : decode code 1412 = .ok (.aload_n 1, 1) := by decide +kernel
theorem dL_law_1413 : decode code 1413 = .ok (.aload_n 0, 1) := by decide +kernel
theorem dL_law_1414 : decode code 1414 = .ok (.iload 4, 2) := by decide +kernel
theorem dL_law_1416 : decode code 1416 = .ok (.iconst 1, 1) := by decide +kernel
theorem dL_law_1417 : decode code 1417 = .ok (.iadd, 1) := by decide +kernel
theorem dL_law_1418 : decode code 1418 = .ok (.iaload, 1) := by decide +kernel
theorem dL_law_1419 : decode code 1419 = .ok (.invokevirtual 180, 3) := by decide +kernel
theorem dL_law_1422 : decode code 1422 = .ok (.aload_n 2, 1) := by decide +kernel
theorem dL_law_1423 : decode code 1423 = .ok (.aload_n 0, 1) := by decide +kernel
theorem dL_law_1424 : decode code 1424 = .ok (.iload 4, 2) := by decide +kernel
theorem dL_law_1426 : decode code 1426 = .ok (.iconst 1, 1) := by decide +kernel
theorem dL_law_1427 : decode code 1427 = .ok (.iadd, 1) := by decide +kernel
theorem dL_law_1428 : decode code 1428 = .ok (.iaload, 1) := by decide +kernel
theorem dL_law_1429 : decode code 1429 = .ok (.invokevirtual 183, 3) := by decide +kernel
theorem dL_law_1432 : decode code 1432 = .ok (.if_icmp .eq 18, 3) := by decide +kernel
theorem dL_law_1435 : decode code 1435 = .ok (.iconst 0, 1) := by decide +kernel
theorem dL_law_1437 : decode code 1437 = .ok (.aload_n 1, 1) := by decide +kernel
theorem dL_law_1438 : decode code 1438 = .ok (.invokevirtual 184, 3) := by decide +kernel
theorem dL_law_1441 : decode code 1441 = .ok (.aload_n 2, 1) := by decide +kernel
theorem dL_law_1442 : decode code 1442 = .ok (.invokevirtual 187, 3) := by decide +kernel
theorem dL_law_1445 : decode code 1445 = .ok (.if_icmp .eq 5, 3) := by decide +kernel
theorem dL_law_1448 : decode code 1448 = .ok (.iconst 0, 1) := by decide +kernel
def wL0 (E : EN) (xa xa_reader xa_inn xa_chosen xa_night xa_marks xa_notes xa_casts ma ma_tape ma_far ma_from ma_real ma_other ma_kept ma_set ma_book ma_noteSort ma_whose ma_what ma_noteIs ma_fitting ma_dawn ma_likes ma_walked ma_came oa xa_reader_tape xa_reader_names xa_reader_sorts xa_reader_numbers xa_reader_inn xa_inn_house xa_inn_thingIn xa_inn_full xa_inn_states xa_inn_bed xa_inn_dreamOf xa_inn_listensIn xa_night_ways xa_night_how xa_night_passed xa_night_dreamOf xa_night_stateOf xa_night_roomOf xa_night_handOf xa_night_awake xa_night_thingIn xa_night_full xa_night_heardBy xa_m0 xa_m1 xa_m2 xa_notes_book xa_notes_sort xa_notes_one xa_notes_other xa_casts_trial xa_casts_dreams xa_casts_plain xa_casts_set xa_casts_tried xa_casts_kin xa_casts_fitters xa_reader_tape_bytes xa_reader_inn_house xa_reader_inn_thingIn xa_reader_inn_full xa_reader_inn_states xa_reader_inn_bed xa_reader_inn_dreamOf xa_reader_inn_listensIn xa_inn_house_creak xa_inn_house_cold xa_inn_house_one xa_inn_house_other xa_inn_house_how xa_inn_house_falls xa_inn_house_ways xa_night_ways_steps xa_m0_inn xa_m0_ways xa_m0_how xa_m0_passed xa_m0_dreamOf xa_m0_stateOf xa_m0_roomOf xa_m0_handOf xa_m0_awake xa_m0_thingIn xa_m0_full xa_m0_heardBy xa_m1_inn xa_m1_ways xa_m1_how xa_m1_passed xa_m1_dreamOf xa_m1_stateOf xa_m1_roomOf xa_m1_handOf xa_m1_awake xa_m1_thingIn xa_m1_full xa_m1_heardBy xa_m2_inn xa_m2_ways xa_m2_how xa_m2_passed xa_m2_dreamOf xa_m2_stateOf xa_m2_roomOf xa_m2_handOf xa_m2_awake xa_m2_thingIn xa_m2_full xa_m2_heardBy xa_casts_trial_ways xa_casts_trial_how xa_casts_trial_passed xa_casts_trial_dreamOf xa_casts_trial_stateOf xa_casts_trial_roomOf xa_casts_trial_handOf xa_casts_trial_awake xa_casts_trial_thingIn xa_casts_trial_full xa_casts_trial_heardBy xa_casts_plain_rows xa_casts_set_rows xa_reader_inn_house_creak xa_reader_inn_house_cold xa_reader_inn_house_one xa_reader_inn_house_other xa_reader_inn_house_how xa_reader_inn_house_falls xa_reader_inn_house_ways xa_inn_house_ways_steps xa_m0_ways_steps xa_m1_ways_steps xa_m2_ways_steps xa_casts_trial_ways_steps xa_reader_inn_house_ways_steps : Nat) (v_xa_marked : Int32) (v_xa_refusal : Int32) (v_xa_latestFault : Int32) (v_xa_faultPlace : Int32) (v_ma_thrown : Int32) (v_ma_trouble : Int32) (v_ma_where : Int32) (v_ma_read : Option Nat) (v_ma_taped : Int32) (v_ma_size : Int32) (v_ma_at : Int32) (v_ma_sort : Int32) (v_ma_place : Int32) (v_ma_sign : Int32) (v_ma_number : Int32) (v_ma_fault : Int32) (v_ma_wrongAt : Int32) (v_ma_word : Int64) (v_ma_marks : Int32) (v_ma_notes : Int32) (v_oa : Nat → Int64) (v_xa_reader_named : Int32) (v_xa_reader_fault : Int32) (v_xa_reader_number : Int32) (v_xa_inn_minutes : Int32) (v_xa_inn_things : Int32) (v_xa_inn_dreams : Int32) (v_xa_inn_sleepers : Int32) (v_xa_inn_listeners : Int32) (v_xa_chosen : Nat → Int32) (v_xa_night_setting : Int32) (v_xa_night_been : Int32) (v_xa_notes_count : Int32) (v_xa_casts_count : Int32) (v_xa_casts_fitting : Int32) (v_ma_tape : Nat → Int32) (v_ma_far : Nat → Int32) (v_ma_from : Nat → Int32) (v_ma_real : Nat → Int32) (v_ma_other : Nat → Int32) (v_ma_kept : Nat → Int32) (v_ma_set : Nat → Int32) (v_ma_book : Nat → Int32) (v_ma_noteSort : Nat → Int32) (v_ma_whose : Nat → Int32) (v_ma_what : Nat → Int32) (v_ma_noteIs : Nat → Int32) (v_ma_fitting : Nat → Int32) (v_ma_dawn : Nat → Int32) (v_ma_likes : Nat → Int64) (v_ma_walked : Nat → Int32) (v_ma_came : Nat → Int32) (v_xa_reader_tape_length : Int32) (v_xa_reader_tape_end : Int32) (v_xa_reader_tape_at : Int32) (v_xa_reader_tape_start : Int32) (v_xa_reader_tape_kind : Int32) (v_xa_reader_tape_code : Int64) (v_xa_reader_tape_mayName : Int32) (v_xa_reader_tape_value : Int32) (v_xa_reader_names : Nat → Int64) (v_xa_reader_sorts : Nat → Int32) (v_xa_reader_numbers : Nat → Int32) (v_xa_reader_inn_minutes : Int32) (v_xa_reader_inn_things : Int32) (v_xa_reader_inn_dreams : Int32) (v_xa_reader_inn_sleepers : Int32) (v_xa_reader_inn_listeners : Int32) (v_xa_inn_house_rooms : Int32) (v_xa_inn_house_doors : Int32) (v_xa_inn_thingIn : Nat → Int32) (v_xa_inn_full : Nat → Int32) (v_xa_inn_states : Nat → Int32) (v_xa_inn_bed : Nat → Int32) (v_xa_inn_dreamOf : Nat → Int32) (v_xa_inn_listensIn : Nat → Int32) (v_xa_night_ways_rooms : Int32) (v_xa_night_how : Nat → Int32) (v_xa_night_passed : Nat → Int32) (v_xa_night_dreamOf : Nat → Int32) (v_xa_night_stateOf : Nat → Int32) (v_xa_night_roomOf : Nat → Int32) (v_xa_night_handOf : Nat → Int32) (v_xa_night_awake : Nat → Int32) (v_xa_night_thingIn : Nat → Int32) (v_xa_night_full : Nat → Int32) (v_xa_night_heardBy : Nat → Int64) (v_xa_m0_setting : Int32) (v_xa_m0_been : Int32) (v_xa_m1_setting : Int32) (v_xa_m1_been : Int32) (v_xa_m2_setting : Int32) (v_xa_m2_been : Int32) (v_xa_notes_book : Nat → Int32) (v_xa_notes_sort : Nat → Int32) (v_xa_notes_one : Nat → Int32) (v_xa_notes_other : Nat → Int32) (v_xa_casts_trial_setting : Int32) (v_xa_casts_trial_been : Int32) (v_xa_casts_dreams : Nat → Int32) (v_xa_casts_tried : Nat → Int32) (v_xa_casts_kin : Nat → Int32) (v_xa_casts_fitters : Nat → Int32) (v_xa_reader_tape_bytes : Nat → Int32) (v_xa_reader_inn_house_rooms : Int32) (v_xa_reader_inn_house_doors : Int32) (v_xa_reader_inn_thingIn : Nat → Int32) (v_xa_reader_inn_full : Nat → Int32) (v_xa_reader_inn_states : Nat → Int32) (v_xa_reader_inn_bed : Nat → Int32) (v_xa_reader_inn_dreamOf : Nat → Int32) (v_xa_reader_inn_listensIn : Nat → Int32) (v_xa_inn_house_creak : Nat → Int32) (v_xa_inn_house_cold : Nat → Int32) (v_xa_inn_house_one : Nat → Int32) (v_xa_inn_house_other : Nat → Int32) (v_xa_inn_house_how : Nat → Int32) (v_xa_inn_house_falls : Nat → Int32) (v_xa_inn_house_ways_rooms : Int32) (v_xa_night_ways_steps : Nat → Int32) (v_xa_m0_ways_rooms : Int32) (v_xa_m0_how : Nat → Int32) (v_xa_m0_passed : Nat → Int32) (v_xa_m0_dreamOf : Nat → Int32) (v_xa_m0_stateOf : Nat → Int32) (v_xa_m0_roomOf : Nat → Int32) (v_xa_m0_handOf : Nat → Int32) (v_xa_m0_awake : Nat → Int32) (v_xa_m0_thingIn : Nat → Int32) (v_xa_m0_full : Nat → Int32) (v_xa_m0_heardBy : Nat → Int64) (v_xa_m1_ways_rooms : Int32) (v_xa_m1_how : Nat → Int32) (v_xa_m1_passed : Nat → Int32) (v_xa_m1_dreamOf : Nat → Int32) (v_xa_m1_stateOf : Nat → Int32) (v_xa_m1_roomOf : Nat → Int32) (v_xa_m1_handOf : Nat → Int32) (v_xa_m1_awake : Nat → Int32) (v_xa_m1_thingIn : Nat → Int32) (v_xa_m1_full : Nat → Int32) (v_xa_m1_heardBy : Nat → Int64) (v_xa_m2_ways_rooms : Int32) (v_xa_m2_how : Nat → Int32) (v_xa_m2_passed : Nat → Int32) (v_xa_m2_dreamOf : Nat → Int32) (v_xa_m2_stateOf : Nat → Int32) (v_xa_m2_roomOf : Nat → Int32) (v_xa_m2_handOf : Nat → Int32) (v_xa_m2_awake : Nat → Int32) (v_xa_m2_thingIn : Nat → Int32) (v_xa_m2_full : Nat → Int32) (v_xa_m2_heardBy : Nat → Int64) (v_xa_casts_trial_ways_rooms : Int32) (v_xa_casts_trial_how : Nat → Int32) (v_xa_casts_trial_passed : Nat → Int32) (v_xa_casts_trial_dreamOf : Nat → Int32) (v_xa_casts_trial_stateOf : Nat → Int32) (v_xa_casts_trial_roomOf : Nat → Int32) (v_xa_casts_trial_handOf : Nat → Int32) (v_xa_casts_trial_awake : Nat → Int32) (v_xa_casts_trial_thingIn : Nat → Int32) (v_xa_casts_trial_full : Nat → Int32) (v_xa_casts_trial_heardBy : Nat → Int64) (v_xa_casts_plain_rows : Nat → Int64) (v_xa_casts_set_rows : Nat → Int64) (v_xa_reader_inn_house_creak : Nat → Int32) (v_xa_reader_inn_house_cold : Nat → Int32) (v_xa_reader_inn_house_one : Nat → Int32) (v_xa_reader_inn_house_other : Nat → Int32) (v_xa_reader_inn_house_how : Nat → Int32) (v_xa_reader_inn_house_falls : Nat → Int32) (v_xa_reader_inn_house_ways_rooms : Int32) (v_xa_inn_house_ways_steps : Nat → Int32) (v_xa_m0_ways_steps : Nat → Int32) (v_xa_m1_ways_steps : Nat → Int32) (v_xa_m2_ways_steps : Nat → Int32) (v_xa_casts_trial_ways_steps : Nat → Int32) (v_xa_reader_inn_house_ways_steps : Nat → Int32) : va_W := [(xa, .inr (9, [.ref xa_reader, .ref xa_inn, .ref xa_chosen, .ref xa_night, .ref xa_marks, .int v_xa_marked, .ref xa_notes, .ref xa_casts, .int v_xa_refusal, .int v_xa_latestFault, .int v_xa_faultPlace])), (ma, .inr (11, [.int v_ma_thrown, .int v_ma_trouble, .int v_ma_where, .null, va_rf v_ma_read, .ref ma_tape, .int v_ma_taped, .int v_ma_size, .int v_ma_at, .int v_ma_sort, .int v_ma_place, .int v_ma_sign, .int v_ma_number, .int v_ma_fault, .int v_ma_wrongAt, .long v_ma_word, .ref ma_far, .ref ma_from, .ref ma_real, .ref ma_other, .ref ma_kept, .ref ma_set, .ref ma_real, .int v_ma_marks, .int v_ma_notes, .ref ma_book, .ref ma_noteSort, .ref ma_whose, .ref ma_what, .ref ma_noteIs, .ref ma_fitting, .ref ma_dawn, .ref ma_likes, .ref ma_walked, .ref ma_came])), (oa, aJ E 1 v_oa), (xa_reader, .inr (6, [.ref xa_reader_tape, .ref xa_reader_names, .ref xa_reader_sorts, .ref xa_reader_numbers, .int v_xa_reader_named, .ref xa_reader_inn, .int v_xa_reader_fault, .int v_xa_reader_number])), (xa_inn, .inr (2, [.ref xa_inn_house, .int v_xa_inn_minutes, .int v_xa_inn_things, .ref xa_inn_thingIn, .ref xa_inn_full, .int v_xa_inn_dreams, .ref xa_inn_states, .int v_xa_inn_sleepers, .ref xa_inn_bed, .ref xa_inn_dreamOf, .int v_xa_inn_listeners, .ref xa_inn_listensIn])), (xa_chosen, aI E 3 v_xa_chosen), (xa_night, .inr (4, [.ref xa_inn, .int v_xa_night_setting, .int v_xa_night_been, .ref xa_night_ways, .ref xa_night_how, .ref xa_night_passed, .ref xa_night_dreamOf, .ref xa_night_stateOf, .ref xa_night_roomOf, .ref xa_night_handOf, .ref xa_night_awake, .ref xa_night_thingIn, .ref xa_night_full, .ref xa_night_heardBy])), (xa_marks, aQ E 3 (mk3 xa_m0 xa_m1 xa_m2)), (xa_notes, .inr (5, [.ref xa_notes_book, .ref xa_notes_sort, .ref xa_notes_one, .ref xa_notes_other, .int v_xa_notes_count])), (xa_casts, .inr (0, [.ref xa_casts_trial, .ref xa_inn, .int v_xa_casts_count, .ref xa_casts_dreams, .ref xa_casts_plain, .ref xa_casts_set, .ref xa_casts_tried, .ref xa_casts_kin, .int v_xa_casts_fitting, .ref xa_casts_fitters])), (ma_tape, aB E 900 v_ma_tape), (ma_far, aI E 64 v_ma_far), (ma_from, aI E 8 v_ma_from), (ma_real, aI E 51 v_ma_real), (ma_other, aI E 51 v_ma_other), (ma_kept, aI E 153 v_ma_kept), (ma_set, aI E 3 v_ma_set), (ma_book, aI E 20 v_ma_book), (ma_noteSort, aI E 20 v_ma_noteSort), (ma_whose, aI E 20 v_ma_whose), (ma_what, aI E 20 v_ma_what), (ma_noteIs, aZ E 20 v_ma_noteIs), (ma_fitting, aI E 64 v_ma_fitting), (ma_dawn, aI E 3840 v_ma_dawn), (ma_likes, aJ E 64 v_ma_likes), (ma_walked, aI E 10 v_ma_walked), (ma_came, aI E 8 v_ma_came), (xa_reader_tape, .inr (7, [.ref xa_reader_tape_bytes, .int v_xa_reader_tape_length, .int v_xa_reader_tape_end, .int v_xa_reader_tape_at, .int v_xa_reader_tape_start, .int v_xa_reader_tape_kind, .long v_xa_reader_tape_code, .int v_xa_reader_tape_mayName, .int v_xa_reader_tape_value])), (xa_reader_names, aJ E 19 v_xa_reader_names), (xa_reader_sorts, aI E 19 v_xa_reader_sorts), (xa_reader_numbers, aI E 19 v_xa_reader_numbers), (xa_reader_inn, .inr (2, [.ref xa_reader_inn_house, .int v_xa_reader_inn_minutes, .int v_xa_reader_inn_things, .ref xa_reader_inn_thingIn, .ref xa_reader_inn_full, .int v_xa_reader_inn_dreams, .ref xa_reader_inn_states, .int v_xa_reader_inn_sleepers, .ref xa_reader_inn_bed, .ref xa_reader_inn_dreamOf, .int v_xa_reader_inn_listeners, .ref xa_reader_inn_listensIn])), (xa_inn_house, .inr (1, [.int v_xa_inn_house_rooms, .ref xa_inn_house_creak, .ref xa_inn_house_cold, .int v_xa_inn_house_doors, .ref xa_inn_house_one, .ref xa_inn_house_other, .ref xa_inn_house_how, .ref xa_inn_house_falls, .ref xa_inn_house_ways])), (xa_inn_thingIn, aI E 4 v_xa_inn_thingIn), (xa_inn_full, aZ E 4 v_xa_inn_full), (xa_inn_states, aI E 64 v_xa_inn_states), (xa_inn_bed, aI E 3 v_xa_inn_bed), (xa_inn_dreamOf, aI E 3 v_xa_inn_dreamOf), (xa_inn_listensIn, aI E 3 v_xa_inn_listensIn), (xa_night_ways, .inr (8, [.ref xa_night_ways_steps, .int v_xa_night_ways_rooms])), (xa_night_how, aI E 10 v_xa_night_how), (xa_night_passed, aI E 10 v_xa_night_passed), (xa_night_dreamOf, aI E 3 v_xa_night_dreamOf), (xa_night_stateOf, aI E 3 v_xa_night_stateOf), (xa_night_roomOf, aI E 3 v_xa_night_roomOf), (xa_night_handOf, aI E 3 v_xa_night_handOf), (xa_night_awake, aZ E 3 v_xa_night_awake), (xa_night_thingIn, aI E 4 v_xa_night_thingIn), (xa_night_full, aZ E 4 v_xa_night_full), (xa_night_heardBy, aJ E 3 v_xa_night_heardBy), (xa_m0, .inr (4, [.ref xa_m0_inn, .int v_xa_m0_setting, .int v_xa_m0_been, .ref xa_m0_ways, .ref xa_m0_how, .ref xa_m0_passed, .ref xa_m0_dreamOf, .ref xa_m0_stateOf, .ref xa_m0_roomOf, .ref xa_m0_handOf, .ref xa_m0_awake, .ref xa_m0_thingIn, .ref xa_m0_full, .ref xa_m0_heardBy])), (xa_m1, .inr (4, [.ref xa_m1_inn, .int v_xa_m1_setting, .int v_xa_m1_been, .ref xa_m1_ways, .ref xa_m1_how, .ref xa_m1_passed, .ref xa_m1_dreamOf, .ref xa_m1_stateOf, .ref xa_m1_roomOf, .ref xa_m1_handOf, .ref xa_m1_awake, .ref xa_m1_thingIn, .ref xa_m1_full, .ref xa_m1_heardBy])), (xa_m2, .inr (4, [.ref xa_m2_inn, .int v_xa_m2_setting, .int v_xa_m2_been, .ref xa_m2_ways, .ref xa_m2_how, .ref xa_m2_passed, .ref xa_m2_dreamOf, .ref xa_m2_stateOf, .ref xa_m2_roomOf, .ref xa_m2_handOf, .ref xa_m2_awake, .ref xa_m2_thingIn, .ref xa_m2_full, .ref xa_m2_heardBy])), (xa_notes_book, aI E 20 v_xa_notes_book), (xa_notes_sort, aI E 20 v_xa_notes_sort), (xa_notes_one, aI E 20 v_xa_notes_one), (xa_notes_other, aI E 20 v_xa_notes_other), (xa_casts_trial, .inr (4, [.ref xa_inn, .int v_xa_casts_trial_setting, .int v_xa_casts_trial_been, .ref xa_casts_trial_ways, .ref xa_casts_trial_how, .ref xa_casts_trial_passed, .ref xa_casts_trial_dreamOf, .ref xa_casts_trial_stateOf, .ref xa_casts_trial_roomOf, .ref xa_casts_trial_handOf, .ref xa_casts_trial_awake, .ref xa_casts_trial_thingIn, .ref xa_casts_trial_full, .ref xa_casts_trial_heardBy])), (xa_casts_dreams, aI E 192 v_xa_casts_dreams), (xa_casts_plain, .inr (3, [.ref xa_casts_plain_rows])), (xa_casts_set, .inr (3, [.ref xa_casts_set_rows])), (xa_casts_tried, aZ E 21 v_xa_casts_tried), (xa_casts_kin, aI E 1344 v_xa_casts_kin), (xa_casts_fitters, aI E 64 v_xa_casts_fitters), (xa_reader_tape_bytes, aB E 900 v_xa_reader_tape_bytes), (xa_reader_inn_house, .inr (1, [.int v_xa_reader_inn_house_rooms, .ref xa_reader_inn_house_creak, .ref xa_reader_inn_house_cold, .int v_xa_reader_inn_house_doors, .ref xa_reader_inn_house_one, .ref xa_reader_inn_house_other, .ref xa_reader_inn_house_how, .ref xa_reader_inn_house_falls, .ref xa_reader_inn_house_ways])), (xa_reader_inn_thingIn, aI E 4 v_xa_reader_inn_thingIn), (xa_reader_inn_full, aZ E 4 v_xa_reader_inn_full), (xa_reader_inn_states, aI E 64 v_xa_reader_inn_states), (xa_reader_inn_bed, aI E 3 v_xa_reader_inn_bed), (xa_reader_inn_dreamOf, aI E 3 v_xa_reader_inn_dreamOf), (xa_reader_inn_listensIn, aI E 3 v_xa_reader_inn_listensIn), (xa_inn_house_creak, aI E 8 v_xa_inn_house_creak), (xa_inn_house_cold, aZ E 8 v_xa_inn_house_cold), (xa_inn_house_one, aI E 10 v_xa_inn_house_one), (xa_inn_house_other, aI E 10 v_xa_inn_house_other), (xa_inn_house_how, aI E 10 v_xa_inn_house_how), (xa_inn_house_falls, aZ E 10 v_xa_inn_house_falls), (xa_inn_house_ways, .inr (8, [.ref xa_inn_house_ways_steps, .int v_xa_inn_house_ways_rooms])), (xa_night_ways_steps, aI E 64 v_xa_night_ways_steps), (xa_m0_ways, .inr (8, [.ref xa_m0_ways_steps, .int v_xa_m0_ways_rooms])), (xa_m0_how, aI E 10 v_xa_m0_how), (xa_m0_passed, aI E 10 v_xa_m0_passed), (xa_m0_dreamOf, aI E 3 v_xa_m0_dreamOf), (xa_m0_stateOf, aI E 3 v_xa_m0_stateOf), (xa_m0_roomOf, aI E 3 v_xa_m0_roomOf), (xa_m0_handOf, aI E 3 v_xa_m0_handOf), (xa_m0_awake, aZ E 3 v_xa_m0_awake), (xa_m0_thingIn, aI E 4 v_xa_m0_thingIn), (xa_m0_full, aZ E 4 v_xa_m0_full), (xa_m0_heardBy, aJ E 3 v_xa_m0_heardBy), (xa_m1_ways, .inr (8, [.ref xa_m1_ways_steps, .int v_xa_m1_ways_rooms])), (xa_m1_how, aI E 10 v_xa_m1_how), (xa_m1_passed, aI E 10 v_xa_m1_passed), (xa_m1_dreamOf, aI E 3 v_xa_m1_dreamOf), (xa_m1_stateOf, aI E 3 v_xa_m1_stateOf), (xa_m1_roomOf, aI E 3 v_xa_m1_roomOf), (xa_m1_handOf, aI E 3 v_xa_m1_handOf), (xa_m1_awake, aZ E 3 v_xa_m1_awake), (xa_m1_thingIn, aI E 4 v_xa_m1_thingIn), (xa_m1_full, aZ E 4 v_xa_m1_full), (xa_m1_heardBy, aJ E 3 v_xa_m1_heardBy), (xa_m2_ways, .inr (8, [.ref xa_m2_ways_steps, .int v_xa_m2_ways_rooms])), (xa_m2_how, aI E 10 v_xa_m2_how), (xa_m2_passed, aI E 10 v_xa_m2_passed), (xa_m2_dreamOf, aI E 3 v_xa_m2_dreamOf), (xa_m2_stateOf, aI E 3 v_xa_m2_stateOf), (xa_m2_roomOf, aI E 3 v_xa_m2_roomOf), (xa_m2_handOf, aI E 3 v_xa_m2_handOf), (xa_m2_awake, aZ E 3 v_xa_m2_awake), (xa_m2_thingIn, aI E 4 v_xa_m2_thingIn), (xa_m2_full, aZ E 4 v_xa_m2_full), (xa_m2_heardBy, aJ E 3 v_xa_m2_heardBy), (xa_casts_trial_ways, .inr (8, [.ref xa_casts_trial_ways_steps, .int v_xa_casts_trial_ways_rooms])), (xa_casts_trial_how, aI E 10 v_xa_casts_trial_how), (xa_casts_trial_passed, aI E 10 v_xa_casts_trial_passed), (xa_casts_trial_dreamOf, aI E 3 v_xa_casts_trial_dreamOf), (xa_casts_trial_stateOf, aI E 3 v_xa_casts_trial_stateOf), (xa_casts_trial_roomOf, aI E 3 v_xa_casts_trial_roomOf), (xa_casts_trial_handOf, aI E 3 v_xa_casts_trial_handOf), (xa_casts_trial_awake, aZ E 3 v_xa_casts_trial_awake), (xa_casts_trial_thingIn, aI E 4 v_xa_casts_trial_thingIn), (xa_casts_trial_full, aZ E 4 v_xa_casts_trial_full), (xa_casts_trial_heardBy, aJ E 3 v_xa_casts_trial_heardBy), (xa_casts_plain_rows, aJ E 256 v_xa_casts_plain_rows), (xa_casts_set_rows, aJ E 256 v_xa_casts_set_rows), (xa_reader_inn_house_creak, aI E 8 v_xa_reader_inn_house_creak), (xa_reader_inn_house_cold, aZ E 8 v_xa_reader_inn_house_cold), (xa_reader_inn_house_one, aI E 10 v_xa_reader_inn_house_one), (xa_reader_inn_house_other, aI E 10 v_xa_reader_inn_house_other), (xa_reader_inn_house_how, aI E 10 v_xa_reader_inn_house_how), (xa_reader_inn_house_falls, aZ E 10 v_xa_reader_inn_house_falls), (xa_reader_inn_house_ways, .inr (8, [.ref xa_reader_inn_house_ways_steps, .int v_xa_reader_inn_house_ways_rooms])), (xa_inn_house_ways_steps, aI E 64 v_xa_inn_house_ways_steps), (xa_m0_ways_steps, aI E 64 v_xa_m0_ways_steps), (xa_m1_ways_steps, aI E 64 v_xa_m1_ways_steps), (xa_m2_ways_steps, aI E 64 v_xa_m2_ways_steps), (xa_casts_trial_ways_steps, aI E 64 v_xa_casts_trial_ways_steps), (xa_reader_inn_house_ways_steps, aI E 64 v_xa_reader_inn_house_ways_steps)]
def wL1 (E : EN) (xa xa_reader xa_inn xa_chosen xa_night xa_marks xa_notes xa_casts ma ma_inn ma_tape ma_far ma_from ma_real ma_other ma_kept ma_set ma_book ma_noteSort ma_whose ma_what ma_noteIs ma_fitting ma_dawn ma_likes ma_walked ma_came oa xa_reader_tape xa_reader_names xa_reader_sorts xa_reader_numbers xa_reader_inn xa_inn_house xa_inn_thingIn xa_inn_full xa_inn_states xa_inn_bed xa_inn_dreamOf xa_inn_listensIn xa_night_ways xa_night_how xa_night_passed xa_night_dreamOf xa_night_stateOf xa_night_roomOf xa_night_handOf xa_night_awake xa_night_thingIn xa_night_full xa_night_heardBy xa_m0 xa_m1 xa_m2 xa_notes_book xa_notes_sort xa_notes_one xa_notes_other xa_casts_trial xa_casts_dreams xa_casts_plain xa_casts_set xa_casts_tried xa_casts_kin xa_casts_fitters ma_inn_creak ma_inn_doorA ma_inn_doorB ma_inn_how ma_inn_lies ma_inn_isCold ma_inn_falls ma_inn_isFull ma_inn_isTold ma_inn_act ma_inn_what ma_inn_then ma_inn_met ma_inn_bed ma_inn_dream ma_inn_listens ma_inn_name ma_inn_nameSort ma_inn_nameNumber xa_reader_tape_bytes xa_reader_inn_house xa_reader_inn_thingIn xa_reader_inn_full xa_reader_inn_states xa_reader_inn_bed xa_reader_inn_dreamOf xa_reader_inn_listensIn xa_inn_house_creak xa_inn_house_cold xa_inn_house_one xa_inn_house_other xa_inn_house_how xa_inn_house_falls xa_inn_house_ways xa_night_ways_steps xa_m0_inn xa_m0_ways xa_m0_how xa_m0_passed xa_m0_dreamOf xa_m0_stateOf xa_m0_roomOf xa_m0_handOf xa_m0_awake xa_m0_thingIn xa_m0_full xa_m0_heardBy xa_m1_inn xa_m1_ways xa_m1_how xa_m1_passed xa_m1_dreamOf xa_m1_stateOf xa_m1_roomOf xa_m1_handOf xa_m1_awake xa_m1_thingIn xa_m1_full xa_m1_heardBy xa_m2_inn xa_m2_ways xa_m2_how xa_m2_passed xa_m2_dreamOf xa_m2_stateOf xa_m2_roomOf xa_m2_handOf xa_m2_awake xa_m2_thingIn xa_m2_full xa_m2_heardBy xa_casts_trial_ways xa_casts_trial_how xa_casts_trial_passed xa_casts_trial_dreamOf xa_casts_trial_stateOf xa_casts_trial_roomOf xa_casts_trial_handOf xa_casts_trial_awake xa_casts_trial_thingIn xa_casts_trial_full xa_casts_trial_heardBy xa_casts_plain_rows xa_casts_set_rows xa_reader_inn_house_creak xa_reader_inn_house_cold xa_reader_inn_house_one xa_reader_inn_house_other xa_reader_inn_house_how xa_reader_inn_house_falls xa_reader_inn_house_ways xa_inn_house_ways_steps xa_m0_ways_steps xa_m1_ways_steps xa_m2_ways_steps xa_casts_trial_ways_steps xa_reader_inn_house_ways_steps : Nat) (v_xa_marked : Int32) (v_xa_refusal : Int32) (v_xa_latestFault : Int32) (v_xa_faultPlace : Int32) (v_ma_thrown : Int32) (v_ma_trouble : Int32) (v_ma_where : Int32) (v_ma_read : Option Nat) (v_ma_taped : Int32) (v_ma_size : Int32) (v_ma_at : Int32) (v_ma_sort : Int32) (v_ma_place : Int32) (v_ma_sign : Int32) (v_ma_number : Int32) (v_ma_fault : Int32) (v_ma_wrongAt : Int32) (v_ma_word : Int64) (v_ma_marks : Int32) (v_ma_notes : Int32) (v_oa : Nat → Int64) (v_xa_reader_named : Int32) (v_xa_reader_fault : Int32) (v_xa_reader_number : Int32) (v_xa_inn_minutes : Int32) (v_xa_inn_things : Int32) (v_xa_inn_dreams : Int32) (v_xa_inn_sleepers : Int32) (v_xa_inn_listeners : Int32) (v_xa_chosen : Nat → Int32) (v_xa_night_setting : Int32) (v_xa_night_been : Int32) (v_xa_notes_count : Int32) (v_xa_casts_count : Int32) (v_xa_casts_fitting : Int32) (v_ma_inn_minutes : Int32) (v_ma_inn_rooms : Int32) (v_ma_inn_doors : Int32) (v_ma_inn_things : Int32) (v_ma_inn_dreams : Int32) (v_ma_inn_sleepers : Int32) (v_ma_inn_listeners : Int32) (v_ma_inn_names : Int32) (v_ma_tape : Nat → Int32) (v_ma_far : Nat → Int32) (v_ma_from : Nat → Int32) (v_ma_real : Nat → Int32) (v_ma_other : Nat → Int32) (v_ma_kept : Nat → Int32) (v_ma_set : Nat → Int32) (v_ma_book : Nat → Int32) (v_ma_noteSort : Nat → Int32) (v_ma_whose : Nat → Int32) (v_ma_what : Nat → Int32) (v_ma_noteIs : Nat → Int32) (v_ma_fitting : Nat → Int32) (v_ma_dawn : Nat → Int32) (v_ma_likes : Nat → Int64) (v_ma_walked : Nat → Int32) (v_ma_came : Nat → Int32) (v_xa_reader_tape_length : Int32) (v_xa_reader_tape_end : Int32) (v_xa_reader_tape_at : Int32) (v_xa_reader_tape_start : Int32) (v_xa_reader_tape_kind : Int32) (v_xa_reader_tape_code : Int64) (v_xa_reader_tape_mayName : Int32) (v_xa_reader_tape_value : Int32) (v_xa_reader_names : Nat → Int64) (v_xa_reader_sorts : Nat → Int32) (v_xa_reader_numbers : Nat → Int32) (v_xa_reader_inn_minutes : Int32) (v_xa_reader_inn_things : Int32) (v_xa_reader_inn_dreams : Int32) (v_xa_reader_inn_sleepers : Int32) (v_xa_reader_inn_listeners : Int32) (v_xa_inn_house_rooms : Int32) (v_xa_inn_house_doors : Int32) (v_xa_inn_thingIn : Nat → Int32) (v_xa_inn_full : Nat → Int32) (v_xa_inn_states : Nat → Int32) (v_xa_inn_bed : Nat → Int32) (v_xa_inn_dreamOf : Nat → Int32) (v_xa_inn_listensIn : Nat → Int32) (v_xa_night_ways_rooms : Int32) (v_xa_night_how : Nat → Int32) (v_xa_night_passed : Nat → Int32) (v_xa_night_dreamOf : Nat → Int32) (v_xa_night_stateOf : Nat → Int32) (v_xa_night_roomOf : Nat → Int32) (v_xa_night_handOf : Nat → Int32) (v_xa_night_awake : Nat → Int32) (v_xa_night_thingIn : Nat → Int32) (v_xa_night_full : Nat → Int32) (v_xa_night_heardBy : Nat → Int64) (v_xa_m0_setting : Int32) (v_xa_m0_been : Int32) (v_xa_m1_setting : Int32) (v_xa_m1_been : Int32) (v_xa_m2_setting : Int32) (v_xa_m2_been : Int32) (v_xa_notes_book : Nat → Int32) (v_xa_notes_sort : Nat → Int32) (v_xa_notes_one : Nat → Int32) (v_xa_notes_other : Nat → Int32) (v_xa_casts_trial_setting : Int32) (v_xa_casts_trial_been : Int32) (v_xa_casts_dreams : Nat → Int32) (v_xa_casts_tried : Nat → Int32) (v_xa_casts_kin : Nat → Int32) (v_xa_casts_fitters : Nat → Int32) (v_ma_inn_creak : Nat → Int32) (v_ma_inn_doorA : Nat → Int32) (v_ma_inn_doorB : Nat → Int32) (v_ma_inn_how : Nat → Int32) (v_ma_inn_lies : Nat → Int32) (v_ma_inn_isCold : Nat → Int32) (v_ma_inn_falls : Nat → Int32) (v_ma_inn_isFull : Nat → Int32) (v_ma_inn_isTold : Nat → Int32) (v_ma_inn_act : Nat → Int32) (v_ma_inn_what : Nat → Int32) (v_ma_inn_then : Nat → Int32) (v_ma_inn_met : Nat → Int32) (v_ma_inn_bed : Nat → Int32) (v_ma_inn_dream : Nat → Int32) (v_ma_inn_listens : Nat → Int32) (v_ma_inn_name : Nat → Int64) (v_ma_inn_nameSort : Nat → Int32) (v_ma_inn_nameNumber : Nat → Int32) (v_xa_reader_tape_bytes : Nat → Int32) (v_xa_reader_inn_house_rooms : Int32) (v_xa_reader_inn_house_doors : Int32) (v_xa_reader_inn_thingIn : Nat → Int32) (v_xa_reader_inn_full : Nat → Int32) (v_xa_reader_inn_states : Nat → Int32) (v_xa_reader_inn_bed : Nat → Int32) (v_xa_reader_inn_dreamOf : Nat → Int32) (v_xa_reader_inn_listensIn : Nat → Int32) (v_xa_inn_house_creak : Nat → Int32) (v_xa_inn_house_cold : Nat → Int32) (v_xa_inn_house_one : Nat → Int32) (v_xa_inn_house_other : Nat → Int32) (v_xa_inn_house_how : Nat → Int32) (v_xa_inn_house_falls : Nat → Int32) (v_xa_inn_house_ways_rooms : Int32) (v_xa_night_ways_steps : Nat → Int32) (v_xa_m0_ways_rooms : Int32) (v_xa_m0_how : Nat → Int32) (v_xa_m0_passed : Nat → Int32) (v_xa_m0_dreamOf : Nat → Int32) (v_xa_m0_stateOf : Nat → Int32) (v_xa_m0_roomOf : Nat → Int32) (v_xa_m0_handOf : Nat → Int32) (v_xa_m0_awake : Nat → Int32) (v_xa_m0_thingIn : Nat → Int32) (v_xa_m0_full : Nat → Int32) (v_xa_m0_heardBy : Nat → Int64) (v_xa_m1_ways_rooms : Int32) (v_xa_m1_how : Nat → Int32) (v_xa_m1_passed : Nat → Int32) (v_xa_m1_dreamOf : Nat → Int32) (v_xa_m1_stateOf : Nat → Int32) (v_xa_m1_roomOf : Nat → Int32) (v_xa_m1_handOf : Nat → Int32) (v_xa_m1_awake : Nat → Int32) (v_xa_m1_thingIn : Nat → Int32) (v_xa_m1_full : Nat → Int32) (v_xa_m1_heardBy : Nat → Int64) (v_xa_m2_ways_rooms : Int32) (v_xa_m2_how : Nat → Int32) (v_xa_m2_passed : Nat → Int32) (v_xa_m2_dreamOf : Nat → Int32) (v_xa_m2_stateOf : Nat → Int32) (v_xa_m2_roomOf : Nat → Int32) (v_xa_m2_handOf : Nat → Int32) (v_xa_m2_awake : Nat → Int32) (v_xa_m2_thingIn : Nat → Int32) (v_xa_m2_full : Nat → Int32) (v_xa_m2_heardBy : Nat → Int64) (v_xa_casts_trial_ways_rooms : Int32) (v_xa_casts_trial_how : Nat → Int32) (v_xa_casts_trial_passed : Nat → Int32) (v_xa_casts_trial_dreamOf : Nat → Int32) (v_xa_casts_trial_stateOf : Nat → Int32) (v_xa_casts_trial_roomOf : Nat → Int32) (v_xa_casts_trial_handOf : Nat → Int32) (v_xa_casts_trial_awake : Nat → Int32) (v_xa_casts_trial_thingIn : Nat → Int32) (v_xa_casts_trial_full : Nat → Int32) (v_xa_casts_trial_heardBy : Nat → Int64) (v_xa_casts_plain_rows : Nat → Int64) (v_xa_casts_set_rows : Nat → Int64) (v_xa_reader_inn_house_creak : Nat → Int32) (v_xa_reader_inn_house_cold : Nat → Int32) (v_xa_reader_inn_house_one : Nat → Int32) (v_xa_reader_inn_house_other : Nat → Int32) (v_xa_reader_inn_house_how : Nat → Int32) (v_xa_reader_inn_house_falls : Nat → Int32) (v_xa_reader_inn_house_ways_rooms : Int32) (v_xa_inn_house_ways_steps : Nat → Int32) (v_xa_m0_ways_steps : Nat → Int32) (v_xa_m1_ways_steps : Nat → Int32) (v_xa_m2_ways_steps : Nat → Int32) (v_xa_casts_trial_ways_steps : Nat → Int32) (v_xa_reader_inn_house_ways_steps : Nat → Int32) : va_W := [(xa, .inr (9, [.ref xa_reader, .ref xa_inn, .ref xa_chosen, .ref xa_night, .ref xa_marks, .int v_xa_marked, .ref xa_notes, .ref xa_casts, .int v_xa_refusal, .int v_xa_latestFault, .int v_xa_faultPlace])), (ma, .inr (11, [.int v_ma_thrown, .int v_ma_trouble, .int v_ma_where, .ref ma_inn, va_rf v_ma_read, .ref ma_tape, .int v_ma_taped, .int v_ma_size, .int v_ma_at, .int v_ma_sort, .int v_ma_place, .int v_ma_sign, .int v_ma_number, .int v_ma_fault, .int v_ma_wrongAt, .long v_ma_word, .ref ma_far, .ref ma_from, .ref ma_real, .ref ma_other, .ref ma_kept, .ref ma_set, .ref ma_real, .int v_ma_marks, .int v_ma_notes, .ref ma_book, .ref ma_noteSort, .ref ma_whose, .ref ma_what, .ref ma_noteIs, .ref ma_fitting, .ref ma_dawn, .ref ma_likes, .ref ma_walked, .ref ma_came])), (oa, aJ E 1 v_oa), (xa_reader, .inr (6, [.ref xa_reader_tape, .ref xa_reader_names, .ref xa_reader_sorts, .ref xa_reader_numbers, .int v_xa_reader_named, .ref xa_reader_inn, .int v_xa_reader_fault, .int v_xa_reader_number])), (xa_inn, .inr (2, [.ref xa_inn_house, .int v_xa_inn_minutes, .int v_xa_inn_things, .ref xa_inn_thingIn, .ref xa_inn_full, .int v_xa_inn_dreams, .ref xa_inn_states, .int v_xa_inn_sleepers, .ref xa_inn_bed, .ref xa_inn_dreamOf, .int v_xa_inn_listeners, .ref xa_inn_listensIn])), (xa_chosen, aI E 3 v_xa_chosen), (xa_night, .inr (4, [.ref xa_inn, .int v_xa_night_setting, .int v_xa_night_been, .ref xa_night_ways, .ref xa_night_how, .ref xa_night_passed, .ref xa_night_dreamOf, .ref xa_night_stateOf, .ref xa_night_roomOf, .ref xa_night_handOf, .ref xa_night_awake, .ref xa_night_thingIn, .ref xa_night_full, .ref xa_night_heardBy])), (xa_marks, aQ E 3 (mk3 xa_m0 xa_m1 xa_m2)), (xa_notes, .inr (5, [.ref xa_notes_book, .ref xa_notes_sort, .ref xa_notes_one, .ref xa_notes_other, .int v_xa_notes_count])), (xa_casts, .inr (0, [.ref xa_casts_trial, .ref xa_inn, .int v_xa_casts_count, .ref xa_casts_dreams, .ref xa_casts_plain, .ref xa_casts_set, .ref xa_casts_tried, .ref xa_casts_kin, .int v_xa_casts_fitting, .ref xa_casts_fitters])), (ma_inn, .inr (10, [.int v_ma_inn_minutes, .int v_ma_inn_rooms, .int v_ma_inn_doors, .int v_ma_inn_things, .int v_ma_inn_dreams, .int v_ma_inn_sleepers, .int v_ma_inn_listeners, .int v_ma_inn_names, .ref ma_inn_creak, .ref ma_inn_doorA, .ref ma_inn_doorB, .ref ma_inn_how, .ref ma_inn_lies, .ref ma_inn_isCold, .ref ma_inn_falls, .ref ma_inn_isFull, .ref ma_inn_isTold, .ref ma_inn_act, .ref ma_inn_what, .ref ma_inn_then, .ref ma_inn_met, .ref ma_inn_bed, .ref ma_inn_dream, .ref ma_inn_listens, .ref ma_inn_name, .ref ma_inn_nameSort, .ref ma_inn_nameNumber])), (ma_tape, aB E 900 v_ma_tape), (ma_far, aI E 64 v_ma_far), (ma_from, aI E 8 v_ma_from), (ma_real, aI E 51 v_ma_real), (ma_other, aI E 51 v_ma_other), (ma_kept, aI E 153 v_ma_kept), (ma_set, aI E 3 v_ma_set), (ma_book, aI E 20 v_ma_book), (ma_noteSort, aI E 20 v_ma_noteSort), (ma_whose, aI E 20 v_ma_whose), (ma_what, aI E 20 v_ma_what), (ma_noteIs, aZ E 20 v_ma_noteIs), (ma_fitting, aI E 64 v_ma_fitting), (ma_dawn, aI E 3840 v_ma_dawn), (ma_likes, aJ E 64 v_ma_likes), (ma_walked, aI E 10 v_ma_walked), (ma_came, aI E 8 v_ma_came), (xa_reader_tape, .inr (7, [.ref xa_reader_tape_bytes, .int v_xa_reader_tape_length, .int v_xa_reader_tape_end, .int v_xa_reader_tape_at, .int v_xa_reader_tape_start, .int v_xa_reader_tape_kind, .long v_xa_reader_tape_code, .int v_xa_reader_tape_mayName, .int v_xa_reader_tape_value])), (xa_reader_names, aJ E 19 v_xa_reader_names), (xa_reader_sorts, aI E 19 v_xa_reader_sorts), (xa_reader_numbers, aI E 19 v_xa_reader_numbers), (xa_reader_inn, .inr (2, [.ref xa_reader_inn_house, .int v_xa_reader_inn_minutes, .int v_xa_reader_inn_things, .ref xa_reader_inn_thingIn, .ref xa_reader_inn_full, .int v_xa_reader_inn_dreams, .ref xa_reader_inn_states, .int v_xa_reader_inn_sleepers, .ref xa_reader_inn_bed, .ref xa_reader_inn_dreamOf, .int v_xa_reader_inn_listeners, .ref xa_reader_inn_listensIn])), (xa_inn_house, .inr (1, [.int v_xa_inn_house_rooms, .ref xa_inn_house_creak, .ref xa_inn_house_cold, .int v_xa_inn_house_doors, .ref xa_inn_house_one, .ref xa_inn_house_other, .ref xa_inn_house_how, .ref xa_inn_house_falls, .ref xa_inn_house_ways])), (xa_inn_thingIn, aI E 4 v_xa_inn_thingIn), (xa_inn_full, aZ E 4 v_xa_inn_full), (xa_inn_states, aI E 64 v_xa_inn_states), (xa_inn_bed, aI E 3 v_xa_inn_bed), (xa_inn_dreamOf, aI E 3 v_xa_inn_dreamOf), (xa_inn_listensIn, aI E 3 v_xa_inn_listensIn), (xa_night_ways, .inr (8, [.ref xa_night_ways_steps, .int v_xa_night_ways_rooms])), (xa_night_how, aI E 10 v_xa_night_how), (xa_night_passed, aI E 10 v_xa_night_passed), (xa_night_dreamOf, aI E 3 v_xa_night_dreamOf), (xa_night_stateOf, aI E 3 v_xa_night_stateOf), (xa_night_roomOf, aI E 3 v_xa_night_roomOf), (xa_night_handOf, aI E 3 v_xa_night_handOf), (xa_night_awake, aZ E 3 v_xa_night_awake), (xa_night_thingIn, aI E 4 v_xa_night_thingIn), (xa_night_full, aZ E 4 v_xa_night_full), (xa_night_heardBy, aJ E 3 v_xa_night_heardBy), (xa_m0, .inr (4, [.ref xa_m0_inn, .int v_xa_m0_setting, .int v_xa_m0_been, .ref xa_m0_ways, .ref xa_m0_how, .ref xa_m0_passed, .ref xa_m0_dreamOf, .ref xa_m0_stateOf, .ref xa_m0_roomOf, .ref xa_m0_handOf, .ref xa_m0_awake, .ref xa_m0_thingIn, .ref xa_m0_full, .ref xa_m0_heardBy])), (xa_m1, .inr (4, [.ref xa_m1_inn, .int v_xa_m1_setting, .int v_xa_m1_been, .ref xa_m1_ways, .ref xa_m1_how, .ref xa_m1_passed, .ref xa_m1_dreamOf, .ref xa_m1_stateOf, .ref xa_m1_roomOf, .ref xa_m1_handOf, .ref xa_m1_awake, .ref xa_m1_thingIn, .ref xa_m1_full, .ref xa_m1_heardBy])), (xa_m2, .inr (4, [.ref xa_m2_inn, .int v_xa_m2_setting, .int v_xa_m2_been, .ref xa_m2_ways, .ref xa_m2_how, .ref xa_m2_passed, .ref xa_m2_dreamOf, .ref xa_m2_stateOf, .ref xa_m2_roomOf, .ref xa_m2_handOf, .ref xa_m2_awake, .ref xa_m2_thingIn, .ref xa_m2_full, .ref xa_m2_heardBy])), (xa_notes_book, aI E 20 v_xa_notes_book), (xa_notes_sort, aI E 20 v_xa_notes_sort), (xa_notes_one, aI E 20 v_xa_notes_one), (xa_notes_other, aI E 20 v_xa_notes_other), (xa_casts_trial, .inr (4, [.ref xa_inn, .int v_xa_casts_trial_setting, .int v_xa_casts_trial_been, .ref xa_casts_trial_ways, .ref xa_casts_trial_how, .ref xa_casts_trial_passed, .ref xa_casts_trial_dreamOf, .ref xa_casts_trial_stateOf, .ref xa_casts_trial_roomOf, .ref xa_casts_trial_handOf, .ref xa_casts_trial_awake, .ref xa_casts_trial_thingIn, .ref xa_casts_trial_full, .ref xa_casts_trial_heardBy])), (xa_casts_dreams, aI E 192 v_xa_casts_dreams), (xa_casts_plain, .inr (3, [.ref xa_casts_plain_rows])), (xa_casts_set, .inr (3, [.ref xa_casts_set_rows])), (xa_casts_tried, aZ E 21 v_xa_casts_tried), (xa_casts_kin, aI E 1344 v_xa_casts_kin), (xa_casts_fitters, aI E 64 v_xa_casts_fitters), (ma_inn_creak, aI E 8 v_ma_inn_creak), (ma_inn_doorA, aI E 10 v_ma_inn_doorA), (ma_inn_doorB, aI E 10 v_ma_inn_doorB), (ma_inn_how, aI E 10 v_ma_inn_how), (ma_inn_lies, aI E 4 v_ma_inn_lies), (ma_inn_isCold, aZ E 8 v_ma_inn_isCold), (ma_inn_falls, aZ E 10 v_ma_inn_falls), (ma_inn_isFull, aZ E 4 v_ma_inn_isFull), (ma_inn_isTold, aZ E 16 v_ma_inn_isTold), (ma_inn_act, aI E 16 v_ma_inn_act), (ma_inn_what, aI E 16 v_ma_inn_what), (ma_inn_then, aI E 16 v_ma_inn_then), (ma_inn_met, aI E 16 v_ma_inn_met), (ma_inn_bed, aI E 3 v_ma_inn_bed), (ma_inn_dream, aI E 3 v_ma_inn_dream), (ma_inn_listens, aI E 3 v_ma_inn_listens), (ma_inn_name, aJ E 19 v_ma_inn_name), (ma_inn_nameSort, aI E 19 v_ma_inn_nameSort), (ma_inn_nameNumber, aI E 19 v_ma_inn_nameNumber), (xa_reader_tape_bytes, aB E 900 v_xa_reader_tape_bytes), (xa_reader_inn_house, .inr (1, [.int v_xa_reader_inn_house_rooms, .ref xa_reader_inn_house_creak, .ref xa_reader_inn_house_cold, .int v_xa_reader_inn_house_doors, .ref xa_reader_inn_house_one, .ref xa_reader_inn_house_other, .ref xa_reader_inn_house_how, .ref xa_reader_inn_house_falls, .ref xa_reader_inn_house_ways])), (xa_reader_inn_thingIn, aI E 4 v_xa_reader_inn_thingIn), (xa_reader_inn_full, aZ E 4 v_xa_reader_inn_full), (xa_reader_inn_states, aI E 64 v_xa_reader_inn_states), (xa_reader_inn_bed, aI E 3 v_xa_reader_inn_bed), (xa_reader_inn_dreamOf, aI E 3 v_xa_reader_inn_dreamOf), (xa_reader_inn_listensIn, aI E 3 v_xa_reader_inn_listensIn), (xa_inn_house_creak, aI E 8 v_xa_inn_house_creak), (xa_inn_house_cold, aZ E 8 v_xa_inn_house_cold), (xa_inn_house_one, aI E 10 v_xa_inn_house_one), (xa_inn_house_other, aI E 10 v_xa_inn_house_other), (xa_inn_house_how, aI E 10 v_xa_inn_house_how), (xa_inn_house_falls, aZ E 10 v_xa_inn_house_falls), (xa_inn_house_ways, .inr (8, [.ref xa_inn_house_ways_steps, .int v_xa_inn_house_ways_rooms])), (xa_night_ways_steps, aI E 64 v_xa_night_ways_steps), (xa_m0_ways, .inr (8, [.ref xa_m0_ways_steps, .int v_xa_m0_ways_rooms])), (xa_m0_how, aI E 10 v_xa_m0_how), (xa_m0_passed, aI E 10 v_xa_m0_passed), (xa_m0_dreamOf, aI E 3 v_xa_m0_dreamOf), (xa_m0_stateOf, aI E 3 v_xa_m0_stateOf), (xa_m0_roomOf, aI E 3 v_xa_m0_roomOf), (xa_m0_handOf, aI E 3 v_xa_m0_handOf), (xa_m0_awake, aZ E 3 v_xa_m0_awake), (xa_m0_thingIn, aI E 4 v_xa_m0_thingIn), (xa_m0_full, aZ E 4 v_xa_m0_full), (xa_m0_heardBy, aJ E 3 v_xa_m0_heardBy), (xa_m1_ways, .inr (8, [.ref xa_m1_ways_steps, .int v_xa_m1_ways_rooms])), (xa_m1_how, aI E 10 v_xa_m1_how), (xa_m1_passed, aI E 10 v_xa_m1_passed), (xa_m1_dreamOf, aI E 3 v_xa_m1_dreamOf), (xa_m1_stateOf, aI E 3 v_xa_m1_stateOf), (xa_m1_roomOf, aI E 3 v_xa_m1_roomOf), (xa_m1_handOf, aI E 3 v_xa_m1_handOf), (xa_m1_awake, aZ E 3 v_xa_m1_awake), (xa_m1_thingIn, aI E 4 v_xa_m1_thingIn), (xa_m1_full, aZ E 4 v_xa_m1_full), (xa_m1_heardBy, aJ E 3 v_xa_m1_heardBy), (xa_m2_ways, .inr (8, [.ref xa_m2_ways_steps, .int v_xa_m2_ways_rooms])), (xa_m2_how, aI E 10 v_xa_m2_how), (xa_m2_passed, aI E 10 v_xa_m2_passed), (xa_m2_dreamOf, aI E 3 v_xa_m2_dreamOf), (xa_m2_stateOf, aI E 3 v_xa_m2_stateOf), (xa_m2_roomOf, aI E 3 v_xa_m2_roomOf), (xa_m2_handOf, aI E 3 v_xa_m2_handOf), (xa_m2_awake, aZ E 3 v_xa_m2_awake), (xa_m2_thingIn, aI E 4 v_xa_m2_thingIn), (xa_m2_full, aZ E 4 v_xa_m2_full), (xa_m2_heardBy, aJ E 3 v_xa_m2_heardBy), (xa_casts_trial_ways, .inr (8, [.ref xa_casts_trial_ways_steps, .int v_xa_casts_trial_ways_rooms])), (xa_casts_trial_how, aI E 10 v_xa_casts_trial_how), (xa_casts_trial_passed, aI E 10 v_xa_casts_trial_passed), (xa_casts_trial_dreamOf, aI E 3 v_xa_casts_trial_dreamOf), (xa_casts_trial_stateOf, aI E 3 v_xa_casts_trial_stateOf), (xa_casts_trial_roomOf, aI E 3 v_xa_casts_trial_roomOf), (xa_casts_trial_handOf, aI E 3 v_xa_casts_trial_handOf), (xa_casts_trial_awake, aZ E 3 v_xa_casts_trial_awake), (xa_casts_trial_thingIn, aI E 4 v_xa_casts_trial_thingIn), (xa_casts_trial_full, aZ E 4 v_xa_casts_trial_full), (xa_casts_trial_heardBy, aJ E 3 v_xa_casts_trial_heardBy), (xa_casts_plain_rows, aJ E 256 v_xa_casts_plain_rows), (xa_casts_set_rows, aJ E 256 v_xa_casts_set_rows), (xa_reader_inn_house_creak, aI E 8 v_xa_reader_inn_house_creak), (xa_reader_inn_house_cold, aZ E 8 v_xa_reader_inn_house_cold), (xa_reader_inn_house_one, aI E 10 v_xa_reader_inn_house_one), (xa_reader_inn_house_other, aI E 10 v_xa_reader_inn_house_other), (xa_reader_inn_house_how, aI E 10 v_xa_reader_inn_house_how), (xa_reader_inn_house_falls, aZ E 10 v_xa_reader_inn_house_falls), (xa_reader_inn_house_ways, .inr (8, [.ref xa_reader_inn_house_ways_steps, .int v_xa_reader_inn_house_ways_rooms])), (xa_inn_house_ways_steps, aI E 64 v_xa_inn_house_ways_steps), (xa_m0_ways_steps, aI E 64 v_xa_m0_ways_steps), (xa_m1_ways_steps, aI E 64 v_xa_m1_ways_steps), (xa_m2_ways_steps, aI E 64 v_xa_m2_ways_steps), (xa_casts_trial_ways_steps, aI E 64 v_xa_casts_trial_ways_steps), (xa_reader_inn_house_ways_steps, aI E 64 v_xa_reader_inn_house_ways_steps)]
