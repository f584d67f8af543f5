/-! the law: each call, further -/
theorem lw_c17 {l : Launch} {G : ux_G} {b L : Nat} {xs : Nat → Int32} {i : Nat} {S : ux_S} (hL : L ≤ 2560) (hi : i + 5 ≤ L) (hR : Rel S) (kk : ∀ S', Rel S' → lx_At l G b L xs 1142 i [] S') : lx_At l G b L xs 735 i [] S := by
  obtain ⟨r, A, B, hf, hg, hB⟩ := pr_placings 40000 (by decide) S hR
  refine lx_obj 736 dL_law_735 rfl 1 rfl rfl ?_
  refine lx_call (k := 0) 739 [] dL_law_736 fv_L_89 (m_X7_placings hf) (by decide) rfl rfl (by decide) rfl rfl (Nat.le_of_ble_eq_true rfl) rfl ?_
  refine lx_obj 740 dL_law_739 rfl 2 rfl rfl ?_
  refine lx_call (k := 8) 743 [] dL_law_740 fv_L_92 (m_X8_placings hg) (by decide) rfl rfl (by decide) rfl rfl (Nat.le_of_ble_eq_true rfl) rfl ?_
  exact lx_same 1142 dL_law_743 rfl (kk B hB)
theorem lw_c18 {l : Launch} {G : ux_G} {b L : Nat} {xs : Nat → Int32} {i : Nat} {S : ux_S} (hL : L ≤ 2560) (hi : i + 5 ≤ L) (hR : Rel S) (kk : ∀ S', Rel S' → lx_At l G b L xs 1142 i [] S') : lx_At l G b L xs 748 i [] S := by
  obtain ⟨r, A, B, hf, hg, hB⟩ := pr_feed 40000 (xs (i + 1)) (xs (i + 2)) S hR
  refine lx_obj 749 dL_law_748 rfl 1 rfl rfl ?_
  refine lx_arg (k := 1) 754 dL_law_749 dL_law_750 dL_law_751 dL_law_752 dL_law_753 rfl hL (by omega) rfl ?_
  refine lx_arg (k := 2) 759 dL_law_754 dL_law_755 dL_law_756 dL_law_757 dL_law_758 rfl hL (by omega) rfl ?_
  refine lx_call (k := 0) 762 [.int (xs (i + 1)), .int (xs (i + 2))] dL_law_759 fv_L_93 (m_X7_feed hf) (by decide) rfl rfl (by decide) rfl rfl (Nat.le_of_ble_eq_true rfl) rfl ?_
  refine lx_obj 763 dL_law_762 rfl 2 rfl rfl ?_
  refine lx_arg (k := 1) 768 dL_law_763 dL_law_764 dL_law_765 dL_law_766 dL_law_767 rfl hL (by omega) rfl ?_
  refine lx_arg (k := 2) 773 dL_law_768 dL_law_769 dL_law_770 dL_law_771 dL_law_772 rfl hL (by omega) rfl ?_
  refine lx_call (k := 8) 776 [.int (xs (i + 1)), .int (xs (i + 2))] dL_law_773 fv_L_96 (m_X8_feed hg) (by decide) rfl rfl (by decide) rfl rfl (Nat.le_of_ble_eq_true rfl) rfl ?_
  exact lx_same 1142 dL_law_776 rfl (kk B hB)
theorem lw_c19 {l : Launch} {G : ux_G} {b L : Nat} {xs : Nat → Int32} {i : Nat} {S : ux_S} (hL : L ≤ 2560) (hi : i + 5 ≤ L) (hR : Rel S) (kk : ∀ S', Rel S' → lx_At l G b L xs 1142 i [] S') : lx_At l G b L xs 781 i [] S := by
  obtain ⟨r, A, B, hf, hg, hB⟩ := pr_plug 40000 (xs (i + 1)) (xs (i + 2)) (xs (i + 3)) S hR
  refine lx_obj 782 dL_law_781 rfl 1 rfl rfl ?_
  refine lx_arg (k := 1) 787 dL_law_782 dL_law_783 dL_law_784 dL_law_785 dL_law_786 rfl hL (by omega) rfl ?_
  refine lx_arg (k := 2) 792 dL_law_787 dL_law_788 dL_law_789 dL_law_790 dL_law_791 rfl hL (by omega) rfl ?_
  refine lx_arg (k := 3) 797 dL_law_792 dL_law_793 dL_law_794 dL_law_795 dL_law_796 rfl hL (by omega) rfl ?_
  refine lx_call (k := 0) 800 [.int (xs (i + 1)), .int (xs (i + 2)), .int (xs (i + 3))] dL_law_797 fv_L_97 (m_X7_plug hf) (by decide) rfl rfl (by decide) rfl rfl (Nat.le_of_ble_eq_true rfl) rfl ?_
  refine lx_obj 801 dL_law_800 rfl 2 rfl rfl ?_
  refine lx_arg (k := 1) 806 dL_law_801 dL_law_802 dL_law_803 dL_law_804 dL_law_805 rfl hL (by omega) rfl ?_
  refine lx_arg (k := 2) 811 dL_law_806 dL_law_807 dL_law_808 dL_law_809 dL_law_810 rfl hL (by omega) rfl ?_
  refine lx_arg (k := 3) 816 dL_law_811 dL_law_812 dL_law_813 dL_law_814 dL_law_815 rfl hL (by omega) rfl ?_
  refine lx_call (k := 8) 819 [.int (xs (i + 1)), .int (xs (i + 2)), .int (xs (i + 3))] dL_law_816 fv_L_100 (m_X8_plug hg) (by decide) rfl rfl (by decide) rfl rfl (Nat.le_of_ble_eq_true rfl) rfl ?_
  exact lx_same 1142 dL_law_819 rfl (kk B hB)
theorem lw_c20 {l : Launch} {G : ux_G} {b L : Nat} {xs : Nat → Int32} {i : Nat} {S : ux_S} (hL : L ≤ 2560) (hi : i + 5 ≤ L) (hR : Rel S) (kk : ∀ S', Rel S' → lx_At l G b L xs 1142 i [] S') : lx_At l G b L xs 824 i [] S := by
  by_cases hz : xs (i + 2) = 0
  · obtain ⟨r, A, B, hf, hg, hB⟩ := pr_fail 40000 (xs (i + 1)) 0 (by decide) S hR
    refine lx_obj 825 dL_law_824 rfl 1 rfl rfl ?_
    refine lx_arg (k := 1) 830 dL_law_825 dL_law_826 dL_law_827 dL_law_828 dL_law_829 rfl hL (by omega) rfl ?_
    refine lx_arg (k := 2) 835 dL_law_830 dL_law_831 dL_law_832 dL_law_833 dL_law_834 rfl hL (by omega) rfl ?_
    refine lx_ifeq 842 838 dL_law_835 rfl rfl (fun _ => ?_) (fun h => absurd hz h)
    refine lx_iconst (v := 0) 843 dL_law_842 rfl rfl ?_
    refine lx_call (k := 0) 846 [.int (xs (i + 1)), .int 0] dL_law_843 fv_L_101 (m_X7_fail hf) (by decide) rfl rfl (by decide) rfl rfl (Nat.le_of_ble_eq_true rfl) rfl ?_
    refine lx_obj 847 dL_law_846 rfl 2 rfl rfl ?_
    refine lx_arg (k := 1) 852 dL_law_847 dL_law_848 dL_law_849 dL_law_850 dL_law_851 rfl hL (by omega) rfl ?_
    refine lx_arg (k := 2) 857 dL_law_852 dL_law_853 dL_law_854 dL_law_855 dL_law_856 rfl hL (by omega) rfl ?_
    refine lx_ifeq 864 860 dL_law_857 rfl rfl (fun _ => ?_) (fun h => absurd hz h)
    refine lx_iconst (v := 0) 865 dL_law_864 rfl rfl ?_
    refine lx_call (k := 8) 868 [.int (xs (i + 1)), .int 0] dL_law_865 fv_L_105 (m_X8_fail hg) (by decide) rfl rfl (by decide) rfl rfl (Nat.le_of_ble_eq_true rfl) rfl ?_
    exact lx_same 1142 dL_law_868 rfl (kk B hB)
  · obtain ⟨r, A, B, hf, hg, hB⟩ := pr_fail 40000 (xs (i + 1)) 1 (by decide) S hR
    refine lx_obj 825 dL_law_824 rfl 1 rfl rfl ?_
    refine lx_arg (k := 1) 830 dL_law_825 dL_law_826 dL_law_827 dL_law_828 dL_law_829 rfl hL (by omega) rfl ?_
    refine lx_arg (k := 2) 835 dL_law_830 dL_law_831 dL_law_832 dL_law_833 dL_law_834 rfl hL (by omega) rfl ?_
    refine lx_ifeq 842 838 dL_law_835 rfl rfl (fun h => absurd h hz) (fun _ => ?_)
    refine lx_iconst (v := 1) 839 dL_law_838 rfl rfl ?_
    refine lx_goto 843 dL_law_839 rfl ?_
    refine lx_call (k := 0) 846 [.int (xs (i + 1)), .int 1] dL_law_843 fv_L_101 (m_X7_fail hf) (by decide) rfl rfl (by decide) rfl rfl (Nat.le_of_ble_eq_true rfl) rfl ?_
    refine lx_obj 847 dL_law_846 rfl 2 rfl rfl ?_
    refine lx_arg (k := 1) 852 dL_law_847 dL_law_848 dL_law_849 dL_law_850 dL_law_851 rfl hL (by omega) rfl ?_
    refine lx_arg (k := 2) 857 dL_law_852 dL_law_853 dL_law_854 dL_law_855 dL_law_856 rfl hL (by omega) rfl ?_
    refine lx_ifeq 864 860 dL_law_857 rfl rfl (fun h => absurd h hz) (fun _ => ?_)
    refine lx_iconst (v := 1) 861 dL_law_860 rfl rfl ?_
    refine lx_goto 865 dL_law_861 rfl ?_
    refine lx_call (k := 8) 868 [.int (xs (i + 1)), .int 1] dL_law_865 fv_L_105 (m_X8_fail hg) (by decide) rfl rfl (by decide) rfl rfl (Nat.le_of_ble_eq_true rfl) rfl ?_
    exact lx_same 1142 dL_law_868 rfl (kk B hB)
theorem lw_c21 {l : Launch} {G : ux_G} {b L : Nat} {xs : Nat → Int32} {i : Nat} {S : ux_S} (hL : L ≤ 2560) (hi : i + 5 ≤ L) (hR : Rel S) (kk : ∀ S', Rel S' → lx_At l G b L xs 1142 i [] S') : lx_At l G b L xs 873 i [] S := by
  obtain ⟨r, A, B, hf, hg, hB⟩ := pr_through 40000 (by decide) (xs (i + 1)) S hR
  refine lx_obj 874 dL_law_873 rfl 1 rfl rfl ?_
  refine lx_arg (k := 1) 879 dL_law_874 dL_law_875 dL_law_876 dL_law_877 dL_law_878 rfl hL (by omega) rfl ?_
  refine lx_call (k := 0) 882 [.int (xs (i + 1))] dL_law_879 fv_L_106 (m_X7_through hf) (by decide) rfl rfl (by decide) rfl rfl (Nat.le_of_ble_eq_true rfl) rfl ?_
  refine lx_obj 883 dL_law_882 rfl 2 rfl rfl ?_
  refine lx_arg (k := 1) 888 dL_law_883 dL_law_884 dL_law_885 dL_law_886 dL_law_887 rfl hL (by omega) rfl ?_
  refine lx_call (k := 8) 891 [.int (xs (i + 1))] dL_law_888 fv_L_109 (m_X8_through hg) (by decide) rfl rfl (by decide) rfl rfl (Nat.le_of_ble_eq_true rfl) rfl ?_
  exact lx_same 1142 dL_law_891 rfl (kk B hB)
theorem lw_c22 {l : Launch} {G : ux_G} {b L : Nat} {xs : Nat → Int32} {i : Nat} {S : ux_S} (hL : L ≤ 2560) (hi : i + 5 ≤ L) (hR : Rel S) (kk : ∀ S', Rel S' → lx_At l G b L xs 1142 i [] S') : lx_At l G b L xs 896 i [] S := by
  obtain ⟨r, A, B, hf, hg, hB⟩ := pr_state 40000 (by decide) (xs (i + 1)) S hR
  refine lx_obj 897 dL_law_896 rfl 1 rfl rfl ?_
  refine lx_arg (k := 1) 902 dL_law_897 dL_law_898 dL_law_899 dL_law_900 dL_law_901 rfl hL (by omega) rfl ?_
  refine lx_call (k := 0) 905 [.int (xs (i + 1))] dL_law_902 fv_L_110 (m_X7_state hf) (by decide) rfl rfl (by decide) rfl rfl (Nat.le_of_ble_eq_true rfl) rfl ?_
  refine lx_obj 906 dL_law_905 rfl 2 rfl rfl ?_
  refine lx_arg (k := 1) 911 dL_law_906 dL_law_907 dL_law_908 dL_law_909 dL_law_910 rfl hL (by omega) rfl ?_
  refine lx_call (k := 8) 914 [.int (xs (i + 1))] dL_law_911 fv_L_113 (m_X8_state hg) (by decide) rfl rfl (by decide) rfl rfl (Nat.le_of_ble_eq_true rfl) rfl ?_
  exact lx_same 1142 dL_law_914 rfl (kk B hB)
theorem lw_c23 {l : Launch} {G : ux_G} {b L : Nat} {xs : Nat → Int32} {i : Nat} {S : ux_S} (hL : L ≤ 2560) (hi : i + 5 ≤ L) (hR : Rel S) (kk : ∀ S', Rel S' → lx_At l G b L xs 1142 i [] S') : lx_At l G b L xs 919 i [] S := by
  obtain ⟨r, A, B, hf, hg, hB⟩ := pr_weak 40000 (by decide) S hR
  refine lx_obj 920 dL_law_919 rfl 1 rfl rfl ?_
  refine lx_call (k := 0) 923 [] dL_law_920 fv_L_114 (m_X7_weak hf) (by decide) rfl rfl (by decide) rfl rfl (Nat.le_of_ble_eq_true rfl) rfl ?_
  refine lx_obj 924 dL_law_923 rfl 2 rfl rfl ?_
  refine lx_call (k := 8) 927 [] dL_law_924 fv_L_117 (m_X8_weak hg) (by decide) rfl rfl (by decide) rfl rfl (Nat.le_of_ble_eq_true rfl) rfl ?_
  exact lx_same 1142 dL_law_927 rfl (kk B hB)
theorem lw_c24 {l : Launch} {G : ux_G} {b L : Nat} {xs : Nat → Int32} {i : Nat} {S : ux_S} (hL : L ≤ 2560) (hi : i + 5 ≤ L) (hR : Rel S) (kk : ∀ S', Rel S' → lx_At l G b L xs 1142 i [] S') : lx_At l G b L xs 932 i [] S := by
  obtain ⟨r, A, B, hf, hg, hB⟩ := pr_cause (xs (i + 1)) S hR
  refine lx_obj 933 dL_law_932 rfl 1 rfl rfl ?_
  refine lx_arg (k := 1) 938 dL_law_933 dL_law_934 dL_law_935 dL_law_936 dL_law_937 rfl hL (by omega) rfl ?_
  refine lx_call (k := 0) 941 [.int (xs (i + 1))] dL_law_938 fv_L_118 (m_X7_cause hf) (by decide) rfl rfl (by decide) rfl rfl (Nat.le_of_ble_eq_true rfl) rfl ?_
  refine lx_obj 942 dL_law_941 rfl 2 rfl rfl ?_
  refine lx_arg (k := 1) 947 dL_law_942 dL_law_943 dL_law_944 dL_law_945 dL_law_946 rfl hL (by omega) rfl ?_
  refine lx_call (k := 8) 950 [.int (xs (i + 1))] dL_law_947 fv_L_121 (m_X8_cause hg) (by decide) rfl rfl (by decide) rfl rfl (Nat.le_of_ble_eq_true rfl) rfl ?_
  exact lx_same 1142 dL_law_950 rfl (kk B hB)
theorem lw_c25 {l : Launch} {G : ux_G} {b L : Nat} {xs : Nat → Int32} {i : Nat} {S : ux_S} (hL : L ≤ 2560) (hi : i + 5 ≤ L) (hR : Rel S) (kk : ∀ S', Rel S' → lx_At l G b L xs 1142 i [] S') : lx_At l G b L xs 955 i [] S := by
  obtain ⟨r, A, B, hf, hg, hB⟩ := pr_seen (xs (i + 1)) S hR
  refine lx_obj 956 dL_law_955 rfl 1 rfl rfl ?_
  refine lx_arg (k := 1) 961 dL_law_956 dL_law_957 dL_law_958 dL_law_959 dL_law_960 rfl hL (by omega) rfl ?_
  refine lx_call (k := 0) 964 [.int (xs (i + 1))] dL_law_961 fv_L_122 (m_X7_seen hf) (by decide) rfl rfl (by decide) rfl rfl (Nat.le_of_ble_eq_true rfl) rfl ?_
  refine lx_obj 965 dL_law_964 rfl 2 rfl rfl ?_
  refine lx_arg (k := 1) 970 dL_law_965 dL_law_966 dL_law_967 dL_law_968 dL_law_969 rfl hL (by omega) rfl ?_
  refine lx_call (k := 8) 973 [.int (xs (i + 1))] dL_law_970 fv_L_125 (m_X8_seen hg) (by decide) rfl rfl (by decide) rfl rfl (Nat.le_of_ble_eq_true rfl) rfl ?_
  exact lx_same 1142 dL_law_973 rfl (kk B hB)
theorem lw_c26 {l : Launch} {G : ux_G} {b L : Nat} {xs : Nat → Int32} {i : Nat} {S : ux_S} (hL : L ≤ 2560) (hi : i + 5 ≤ L) (hR : Rel S) (kk : ∀ S', Rel S' → lx_At l G b L xs 1142 i [] S') : lx_At l G b L xs 978 i [] S := by
  obtain ⟨r, A, B, hf, hg, hB⟩ := pr_roots 40000 (by decide) S hR
  refine lx_obj 979 dL_law_978 rfl 1 rfl rfl ?_
  refine lx_call (k := 0) 982 [] dL_law_979 fv_L_126 (m_X7_roots hf) (by decide) rfl rfl (by decide) rfl rfl (Nat.le_of_ble_eq_true rfl) rfl ?_
  refine lx_obj 983 dL_law_982 rfl 2 rfl rfl ?_
  refine lx_call (k := 8) 986 [] dL_law_983 fv_L_129 (m_X8_roots hg) (by decide) rfl rfl (by decide) rfl rfl (Nat.le_of_ble_eq_true rfl) rfl ?_
  exact lx_same 1142 dL_law_986 rfl (kk B hB)
theorem lw_c27 {l : Launch} {G : ux_G} {b L : Nat} {xs : Nat → Int32} {i : Nat} {S : ux_S} (hL : L ≤ 2560) (hi : i + 5 ≤ L) (hR : Rel S) (kk : ∀ S', Rel S' → lx_At l G b L xs 1142 i [] S') : lx_At l G b L xs 991 i [] S := by
  obtain ⟨r, A, B, hf, hg, hB⟩ := pr_strange 40000 (by decide) S hR
  refine lx_obj 992 dL_law_991 rfl 1 rfl rfl ?_
  refine lx_call (k := 0) 995 [] dL_law_992 fv_L_130 (m_X7_strange hf) (by decide) rfl rfl (by decide) rfl rfl (Nat.le_of_ble_eq_true rfl) rfl ?_
  refine lx_obj 996 dL_law_995 rfl 2 rfl rfl ?_
  refine lx_call (k := 8) 999 [] dL_law_996 fv_L_133 (m_X8_strange hg) (by decide) rfl rfl (by decide) rfl rfl (Nat.le_of_ble_eq_true rfl) rfl ?_
  exact lx_same 1142 dL_law_999 rfl (kk B hB)
theorem lw_c28 {l : Launch} {G : ux_G} {b L : Nat} {xs : Nat → Int32} {i : Nat} {S : ux_S} (hL : L ≤ 2560) (hi : i + 5 ≤ L) (hR : Rel S) (kk : ∀ S', Rel S' → lx_At l G b L xs 1142 i [] S') : lx_At l G b L xs 1004 i [] S := by
  obtain ⟨r, A, B, hf, hg, hB⟩ := pr_meter 40000 (xs (i + 1)) S hR
  refine lx_obj 1005 dL_law_1004 rfl 1 rfl rfl ?_
  refine lx_arg (k := 1) 1010 dL_law_1005 dL_law_1006 dL_law_1007 dL_law_1008 dL_law_1009 rfl hL (by omega) rfl ?_
  refine lx_call (k := 0) 1013 [.int (xs (i + 1))] dL_law_1010 fv_L_134 (m_X7_meter hf) (by decide) rfl rfl (by decide) rfl rfl (Nat.le_of_ble_eq_true rfl) rfl ?_
  refine lx_obj 1014 dL_law_1013 rfl 2 rfl rfl ?_
  refine lx_arg (k := 1) 1019 dL_law_1014 dL_law_1015 dL_law_1016 dL_law_1017 dL_law_1018 rfl hL (by omega) rfl ?_
  refine lx_call (k := 8) 1022 [.int (xs (i + 1))] dL_law_1019 fv_L_137 (m_X8_meter hg) (by decide) rfl rfl (by decide) rfl rfl (Nat.le_of_ble_eq_true rfl) rfl ?_
  exact lx_same 1142 dL_law_1022 rfl (kk B hB)
theorem lw_c29 {l : Launch} {G : ux_G} {b L : Nat} {xs : Nat → Int32} {i : Nat} {S : ux_S} (hL : L ≤ 2560) (hi : i + 5 ≤ L) (hR : Rel S) (kk : ∀ S', Rel S' → lx_At l G b L xs 1142 i [] S') : lx_At l G b L xs 1027 i [] S := by
  obtain ⟨r, A, B, hf, hg, hB⟩ := pr_reads (xs (i + 1)) (xs (i + 2)) S hR
  refine lx_obj 1028 dL_law_1027 rfl 1 rfl rfl ?_
  refine lx_arg (k := 1) 1033 dL_law_1028 dL_law_1029 dL_law_1030 dL_law_1031 dL_law_1032 rfl hL (by omega) rfl ?_
  refine lx_arg (k := 2) 1038 dL_law_1033 dL_law_1034 dL_law_1035 dL_law_1036 dL_law_1037 rfl hL (by omega) rfl ?_
  refine lx_call (k := 0) 1041 [.int (xs (i + 1)), .int (xs (i + 2))] dL_law_1038 fv_L_138 (m_X7_reads hf) (by decide) rfl rfl (by decide) rfl rfl (Nat.le_of_ble_eq_true rfl) rfl ?_
  refine lx_obj 1042 dL_law_1041 rfl 2 rfl rfl ?_
  refine lx_arg (k := 1) 1047 dL_law_1042 dL_law_1043 dL_law_1044 dL_law_1045 dL_law_1046 rfl hL (by omega) rfl ?_
  refine lx_arg (k := 2) 1052 dL_law_1047 dL_law_1048 dL_law_1049 dL_law_1050 dL_law_1051 rfl hL (by omega) rfl ?_
  refine lx_call (k := 8) 1055 [.int (xs (i + 1)), .int (xs (i + 2))] dL_law_1052 fv_L_141 (m_X8_reads hg) (by decide) rfl rfl (by decide) rfl rfl (Nat.le_of_ble_eq_true rfl) rfl ?_
  exact lx_same 1142 dL_law_1055 rfl (kk B hB)
theorem lw_c30 {l : Launch} {G : ux_G} {b L : Nat} {xs : Nat → Int32} {i : Nat} {S : ux_S} (hL : L ≤ 2560) (hi : i + 5 ≤ L) (hR : Rel S) (kk : ∀ S', Rel S' → lx_At l G b L xs 1142 i [] S') : lx_At l G b L xs 1060 i [] S := by
  obtain ⟨r, A, B, hf, hg, hB⟩ := pr_loses 40000 (xs (i + 1)) S hR
  refine lx_obj 1061 dL_law_1060 rfl 1 rfl rfl ?_
  refine lx_arg (k := 1) 1066 dL_law_1061 dL_law_1062 dL_law_1063 dL_law_1064 dL_law_1065 rfl hL (by omega) rfl ?_
  refine lx_call (k := 0) 1069 [.int (xs (i + 1))] dL_law_1066 fv_L_142 (m_X7_loses hf) (by decide) rfl rfl (by decide) rfl rfl (Nat.le_of_ble_eq_true rfl) rfl ?_
  refine lx_obj 1070 dL_law_1069 rfl 2 rfl rfl ?_
  refine lx_arg (k := 1) 1075 dL_law_1070 dL_law_1071 dL_law_1072 dL_law_1073 dL_law_1074 rfl hL (by omega) rfl ?_
  refine lx_call (k := 8) 1078 [.int (xs (i + 1))] dL_law_1075 fv_L_145 (m_X8_loses hg) (by decide) rfl rfl (by decide) rfl rfl (Nat.le_of_ble_eq_true rfl) rfl ?_
  exact lx_same 1142 dL_law_1078 rfl (kk B hB)
theorem lw_c31 {l : Launch} {G : ux_G} {b L : Nat} {xs : Nat → Int32} {i : Nat} {S : ux_S} (hL : L ≤ 2560) (hi : i + 5 ≤ L) (hR : Rel S) (kk : ∀ S', Rel S' → lx_At l G b L xs 1142 i [] S') : lx_At l G b L xs 1083 i [] S := by
  obtain ⟨r, A, B, hf, hg, hB⟩ := pr_known 40000 (by decide) (xs (i + 1)) S hR
  refine lx_obj 1084 dL_law_1083 rfl 1 rfl rfl ?_
  refine lx_arg (k := 1) 1089 dL_law_1084 dL_law_1085 dL_law_1086 dL_law_1087 dL_law_1088 rfl hL (by omega) rfl ?_
  refine lx_call (k := 0) 1092 [.int (xs (i + 1))] dL_law_1089 fv_L_146 (m_X7_known hf) (by decide) rfl rfl (by decide) rfl rfl (Nat.le_of_ble_eq_true rfl) rfl ?_
  refine lx_obj 1093 dL_law_1092 rfl 2 rfl rfl ?_
  refine lx_arg (k := 1) 1098 dL_law_1093 dL_law_1094 dL_law_1095 dL_law_1096 dL_law_1097 rfl hL (by omega) rfl ?_
  refine lx_call (k := 8) 1101 [.int (xs (i + 1))] dL_law_1098 fv_L_149 (m_X8_known hg) (by decide) rfl rfl (by decide) rfl rfl (Nat.le_of_ble_eq_true rfl) rfl ?_
  exact lx_same 1142 dL_law_1101 rfl (kk B hB)
theorem lw_c32 {l : Launch} {G : ux_G} {b L : Nat} {xs : Nat → Int32} {i : Nat} {S : ux_S} (hL : L ≤ 2560) (hi : i + 5 ≤ L) (hR : Rel S) (kk : ∀ S', Rel S' → lx_At l G b L xs 1142 i [] S') : lx_At l G b L xs 1106 i [] S := by
  obtain ⟨r, A, B, hf, hg, hB⟩ := pr_quarrel 40000 (by decide) S hR
  refine lx_obj 1107 dL_law_1106 rfl 1 rfl rfl ?_
  refine lx_call (k := 0) 1110 [] dL_law_1107 fv_L_150 (m_X7_quarrel hf) (by decide) rfl rfl (by decide) rfl rfl (Nat.le_of_ble_eq_true rfl) rfl ?_
  refine lx_obj 1111 dL_law_1110 rfl 2 rfl rfl ?_
  refine lx_call (k := 8) 1114 [] dL_law_1111 fv_L_153 (m_X8_quarrel hg) (by decide) rfl rfl (by decide) rfl rfl (Nat.le_of_ble_eq_true rfl) rfl ?_
  exact lx_same 1142 dL_law_1114 rfl (kk B hB)
theorem lw_c33 {l : Launch} {G : ux_G} {b L : Nat} {xs : Nat → Int32} {i : Nat} {S : ux_S} (hL : L ≤ 2560) (hi : i + 5 ≤ L) (hR : Rel S) (kk : ∀ S', Rel S' → lx_At l G b L xs 1142 i [] S') : lx_At l G b L xs 1119 i [] S := by
  obtain ⟨r, A, B, hf, hg, hB⟩ := pr_count 40000 (by decide) (xs (i + 1)) S hR
  refine lx_obj 1120 dL_law_1119 rfl 1 rfl rfl ?_
  refine lx_arg (k := 1) 1125 dL_law_1120 dL_law_1121 dL_law_1122 dL_law_1123 dL_law_1124 rfl hL (by omega) rfl ?_
  refine lx_call (k := 0) 1128 [.int (xs (i + 1))] dL_law_1125 fv_L_154 (m_X7_count hf) (by decide) rfl rfl (by decide) rfl rfl (Nat.le_of_ble_eq_true rfl) rfl ?_
  refine lx_obj 1129 dL_law_1128 rfl 2 rfl rfl ?_
  refine lx_arg (k := 1) 1134 dL_law_1129 dL_law_1130 dL_law_1131 dL_law_1132 dL_law_1133 rfl hL (by omega) rfl ?_
  refine lx_call (k := 8) 1137 [.int (xs (i + 1))] dL_law_1134 fv_L_157 (m_X8_count hg) (by decide) rfl rfl (by decide) rfl rfl (Nat.le_of_ble_eq_true rfl) rfl ?_
  exact lx_same 1142 dL_law_1137 rfl (kk B hB)
