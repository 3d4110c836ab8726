theorem gw_117 : Cond.code yX10_op cX10_op 7 (some .int) ∈ jq_G := jq_inG 117 (by decide +kernel) (by decide +kernel)
theorem gw_115 : Cond.instanceMethod yX10_op ∈ jq_G := jq_inG 115 (by decide +kernel) (by decide +kernel)
theorem gw_116 : Cond.selects RX10 yX10_op yX10_op ∈ jq_G := jq_inG 116 (by decide +kernel) (by decide +kernel)
theorem gw_114 : Cond.methodLink RL 13 yX10_op ∈ jq_G := jq_inG 114 (by decide +kernel) (by decide +kernel)
theorem gw_837 : Cond.code yX11_op cX11_op 7 (some .int) ∈ jq_G := jq_inG 837 (by decide +kernel) (by decide +kernel)
theorem gw_835 : Cond.instanceMethod yX11_op ∈ jq_G := jq_inG 835 (by decide +kernel) (by decide +kernel)
theorem gw_836 : Cond.selects RX11 yX11_op yX11_op ∈ jq_G := jq_inG 836 (by decide +kernel) (by decide +kernel)
theorem gw_834 : Cond.methodLink RL 17 yX11_op ∈ jq_G := jq_inG 834 (by decide +kernel) (by decide +kernel)
theorem gw_134 : Cond.code yX10_register cX10_register 3 (some .int) ∈ jq_G := jq_inG 134 (by decide +kernel) (by decide +kernel)
theorem gw_132 : Cond.instanceMethod yX10_register ∈ jq_G := jq_inG 132 (by decide +kernel) (by decide +kernel)
theorem gw_133 : Cond.selects RX10 yX10_register yX10_register ∈ jq_G := jq_inG 133 (by decide +kernel) (by decide +kernel)
theorem gw_131 : Cond.methodLink RL 18 yX10_register ∈ jq_G := jq_inG 131 (by decide +kernel) (by decide +kernel)
theorem gw_847 : Cond.code yX11_register cX11_register 3 (some .int) ∈ jq_G := jq_inG 847 (by decide +kernel) (by decide +kernel)
theorem gw_845 : Cond.instanceMethod yX11_register ∈ jq_G := jq_inG 845 (by decide +kernel) (by decide +kernel)
theorem gw_846 : Cond.selects RX11 yX11_register yX11_register ∈ jq_G := jq_inG 846 (by decide +kernel) (by decide +kernel)
theorem gw_844 : Cond.methodLink RL 22 yX11_register ∈ jq_G := jq_inG 844 (by decide +kernel) (by decide +kernel)
theorem gw_138 : Cond.code yX10_value cX10_value 2 (some .int) ∈ jq_G := jq_inG 138 (by decide +kernel) (by decide +kernel)
theorem gw_136 : Cond.instanceMethod yX10_value ∈ jq_G := jq_inG 136 (by decide +kernel) (by decide +kernel)
theorem gw_137 : Cond.selects RX10 yX10_value yX10_value ∈ jq_G := jq_inG 137 (by decide +kernel) (by decide +kernel)
theorem gw_135 : Cond.methodLink RL 23 yX10_value ∈ jq_G := jq_inG 135 (by decide +kernel) (by decide +kernel)
theorem gw_851 : Cond.code yX11_value cX11_value 2 (some .int) ∈ jq_G := jq_inG 851 (by decide +kernel) (by decide +kernel)
theorem gw_849 : Cond.instanceMethod yX11_value ∈ jq_G := jq_inG 849 (by decide +kernel) (by decide +kernel)
theorem gw_850 : Cond.selects RX11 yX11_value yX11_value ∈ jq_G := jq_inG 850 (by decide +kernel) (by decide +kernel)
theorem gw_848 : Cond.methodLink RL 27 yX11_value ∈ jq_G := jq_inG 848 (by decide +kernel) (by decide +kernel)
theorem gw_142 : Cond.code yX10_data cX10_data 3 (some .int) ∈ jq_G := jq_inG 142 (by decide +kernel) (by decide +kernel)
theorem gw_140 : Cond.instanceMethod yX10_data ∈ jq_G := jq_inG 140 (by decide +kernel) (by decide +kernel)
theorem gw_141 : Cond.selects RX10 yX10_data yX10_data ∈ jq_G := jq_inG 141 (by decide +kernel) (by decide +kernel)
theorem gw_139 : Cond.methodLink RL 28 yX10_data ∈ jq_G := jq_inG 139 (by decide +kernel) (by decide +kernel)
theorem gw_855 : Cond.code yX11_data cX11_data 3 (some .int) ∈ jq_G := jq_inG 855 (by decide +kernel) (by decide +kernel)
theorem gw_853 : Cond.instanceMethod yX11_data ∈ jq_G := jq_inG 853 (by decide +kernel) (by decide +kernel)
theorem gw_854 : Cond.selects RX11 yX11_data yX11_data ∈ jq_G := jq_inG 854 (by decide +kernel) (by decide +kernel)
theorem gw_852 : Cond.methodLink RL 31 yX11_data ∈ jq_G := jq_inG 852 (by decide +kernel) (by decide +kernel)
theorem gw_149 : Cond.code yX10_stored cX10_stored 2 (some .int) ∈ jq_G := jq_inG 149 (by decide +kernel) (by decide +kernel)
theorem gw_147 : Cond.instanceMethod yX10_stored ∈ jq_G := jq_inG 147 (by decide +kernel) (by decide +kernel)
theorem gw_148 : Cond.selects RX10 yX10_stored yX10_stored ∈ jq_G := jq_inG 148 (by decide +kernel) (by decide +kernel)
theorem gw_146 : Cond.methodLink RL 32 yX10_stored ∈ jq_G := jq_inG 146 (by decide +kernel) (by decide +kernel)
theorem gw_859 : Cond.code yX11_stored cX11_stored 2 (some .int) ∈ jq_G := jq_inG 859 (by decide +kernel) (by decide +kernel)
theorem gw_857 : Cond.instanceMethod yX11_stored ∈ jq_G := jq_inG 857 (by decide +kernel) (by decide +kernel)
theorem gw_858 : Cond.selects RX11 yX11_stored yX11_stored ∈ jq_G := jq_inG 858 (by decide +kernel) (by decide +kernel)
theorem gw_856 : Cond.methodLink RL 35 yX11_stored ∈ jq_G := jq_inG 856 (by decide +kernel) (by decide +kernel)
theorem gw_153 : Cond.code yX10_stand cX10_stand 3 (some .int) ∈ jq_G := jq_inG 153 (by decide +kernel) (by decide +kernel)
theorem gw_151 : Cond.instanceMethod yX10_stand ∈ jq_G := jq_inG 151 (by decide +kernel) (by decide +kernel)
theorem gw_152 : Cond.selects RX10 yX10_stand yX10_stand ∈ jq_G := jq_inG 152 (by decide +kernel) (by decide +kernel)
theorem gw_150 : Cond.methodLink RL 36 yX10_stand ∈ jq_G := jq_inG 150 (by decide +kernel) (by decide +kernel)
theorem gw_863 : Cond.code yX11_stand cX11_stand 3 (some .int) ∈ jq_G := jq_inG 863 (by decide +kernel) (by decide +kernel)
theorem gw_861 : Cond.instanceMethod yX11_stand ∈ jq_G := jq_inG 861 (by decide +kernel) (by decide +kernel)
theorem gw_862 : Cond.selects RX11 yX11_stand yX11_stand ∈ jq_G := jq_inG 862 (by decide +kernel) (by decide +kernel)
theorem gw_860 : Cond.methodLink RL 39 yX11_stand ∈ jq_G := jq_inG 860 (by decide +kernel) (by decide +kernel)
theorem gw_157 : Cond.code yX10_run cX10_run 5 (some .int) ∈ jq_G := jq_inG 157 (by decide +kernel) (by decide +kernel)
theorem gw_155 : Cond.instanceMethod yX10_run ∈ jq_G := jq_inG 155 (by decide +kernel) (by decide +kernel)
theorem gw_156 : Cond.selects RX10 yX10_run yX10_run ∈ jq_G := jq_inG 156 (by decide +kernel) (by decide +kernel)
theorem gw_154 : Cond.methodLink RL 40 yX10_run ∈ jq_G := jq_inG 154 (by decide +kernel) (by decide +kernel)
theorem gw_867 : Cond.code yX11_run cX11_run 3 (some .int) ∈ jq_G := jq_inG 867 (by decide +kernel) (by decide +kernel)
theorem gw_865 : Cond.instanceMethod yX11_run ∈ jq_G := jq_inG 865 (by decide +kernel) (by decide +kernel)
theorem gw_866 : Cond.selects RX11 yX11_run yX11_run ∈ jq_G := jq_inG 866 (by decide +kernel) (by decide +kernel)
theorem gw_864 : Cond.methodLink RL 43 yX11_run ∈ jq_G := jq_inG 864 (by decide +kernel) (by decide +kernel)
theorem gw_328 : Cond.code yX10_branch cX10_branch 3 (some .int) ∈ jq_G := jq_inG 328 (by decide +kernel) (by decide +kernel)
theorem gw_326 : Cond.instanceMethod yX10_branch ∈ jq_G := jq_inG 326 (by decide +kernel) (by decide +kernel)
theorem gw_327 : Cond.selects RX10 yX10_branch yX10_branch ∈ jq_G := jq_inG 327 (by decide +kernel) (by decide +kernel)
theorem gw_325 : Cond.methodLink RL 44 yX10_branch ∈ jq_G := jq_inG 325 (by decide +kernel) (by decide +kernel)
theorem gw_919 : Cond.code yX11_branch cX11_branch 3 (some .int) ∈ jq_G := jq_inG 919 (by decide +kernel) (by decide +kernel)
theorem gw_917 : Cond.instanceMethod yX11_branch ∈ jq_G := jq_inG 917 (by decide +kernel) (by decide +kernel)
theorem gw_918 : Cond.selects RX11 yX11_branch yX11_branch ∈ jq_G := jq_inG 918 (by decide +kernel) (by decide +kernel)
theorem gw_916 : Cond.methodLink RL 47 yX11_branch ∈ jq_G := jq_inG 916 (by decide +kernel) (by decide +kernel)
theorem gw_335 : Cond.code yX10_at cX10_at 3 (some .int) ∈ jq_G := jq_inG 335 (by decide +kernel) (by decide +kernel)
theorem gw_333 : Cond.instanceMethod yX10_at ∈ jq_G := jq_inG 333 (by decide +kernel) (by decide +kernel)
theorem gw_334 : Cond.selects RX10 yX10_at yX10_at ∈ jq_G := jq_inG 334 (by decide +kernel) (by decide +kernel)
theorem gw_332 : Cond.methodLink RL 48 yX10_at ∈ jq_G := jq_inG 332 (by decide +kernel) (by decide +kernel)
theorem gw_923 : Cond.code yX11_at cX11_at 3 (some .int) ∈ jq_G := jq_inG 923 (by decide +kernel) (by decide +kernel)
theorem gw_921 : Cond.instanceMethod yX11_at ∈ jq_G := jq_inG 921 (by decide +kernel) (by decide +kernel)
theorem gw_922 : Cond.selects RX11 yX11_at yX11_at ∈ jq_G := jq_inG 922 (by decide +kernel) (by decide +kernel)
theorem gw_920 : Cond.methodLink RL 51 yX11_at ∈ jq_G := jq_inG 920 (by decide +kernel) (by decide +kernel)
theorem gw_347 : Cond.code yX10_guesser cX10_guesser 5 (some .int) ∈ jq_G := jq_inG 347 (by decide +kernel) (by decide +kernel)
theorem gw_345 : Cond.instanceMethod yX10_guesser ∈ jq_G := jq_inG 345 (by decide +kernel) (by decide +kernel)
theorem gw_346 : Cond.selects RX10 yX10_guesser yX10_guesser ∈ jq_G := jq_inG 346 (by decide +kernel) (by decide +kernel)
theorem gw_344 : Cond.methodLink RL 52 yX10_guesser ∈ jq_G := jq_inG 344 (by decide +kernel) (by decide +kernel)
theorem gw_927 : Cond.code yX11_guesser cX11_guesser 6 (some .int) ∈ jq_G := jq_inG 927 (by decide +kernel) (by decide +kernel)
theorem gw_925 : Cond.instanceMethod yX11_guesser ∈ jq_G := jq_inG 925 (by decide +kernel) (by decide +kernel)
theorem gw_926 : Cond.selects RX11 yX11_guesser yX11_guesser ∈ jq_G := jq_inG 926 (by decide +kernel) (by decide +kernel)
theorem gw_924 : Cond.methodLink RL 56 yX11_guesser ∈ jq_G := jq_inG 924 (by decide +kernel) (by decide +kernel)
theorem gw_599 : Cond.code yX10_guess cX10_guess 4 (some .int) ∈ jq_G := jq_inG 599 (by decide +kernel) (by decide +kernel)
theorem gw_597 : Cond.instanceMethod yX10_guess ∈ jq_G := jq_inG 597 (by decide +kernel) (by decide +kernel)
theorem gw_598 : Cond.selects RX10 yX10_guess yX10_guess ∈ jq_G := jq_inG 598 (by decide +kernel) (by decide +kernel)
theorem gw_596 : Cond.methodLink RL 57 yX10_guess ∈ jq_G := jq_inG 596 (by decide +kernel) (by decide +kernel)
theorem gw_942 : Cond.code yX11_guess cX11_guess 6 (some .int) ∈ jq_G := jq_inG 942 (by decide +kernel) (by decide +kernel)
theorem gw_940 : Cond.instanceMethod yX11_guess ∈ jq_G := jq_inG 940 (by decide +kernel) (by decide +kernel)
theorem gw_941 : Cond.selects RX11 yX11_guess yX11_guess ∈ jq_G := jq_inG 941 (by decide +kernel) (by decide +kernel)
theorem gw_939 : Cond.methodLink RL 60 yX11_guess ∈ jq_G := jq_inG 939 (by decide +kernel) (by decide +kernel)
theorem gw_604 : Cond.code yX10_hint cX10_hint 6 (some .int) ∈ jq_G := jq_inG 604 (by decide +kernel) (by decide +kernel)
theorem gw_602 : Cond.instanceMethod yX10_hint ∈ jq_G := jq_inG 602 (by decide +kernel) (by decide +kernel)
theorem gw_603 : Cond.selects RX10 yX10_hint yX10_hint ∈ jq_G := jq_inG 603 (by decide +kernel) (by decide +kernel)
theorem gw_601 : Cond.methodLink RL 61 yX10_hint ∈ jq_G := jq_inG 601 (by decide +kernel) (by decide +kernel)
theorem gw_946 : Cond.code yX11_hint cX11_hint 5 (some .int) ∈ jq_G := jq_inG 946 (by decide +kernel) (by decide +kernel)
theorem gw_944 : Cond.instanceMethod yX11_hint ∈ jq_G := jq_inG 944 (by decide +kernel) (by decide +kernel)
theorem gw_945 : Cond.selects RX11 yX11_hint yX11_hint ∈ jq_G := jq_inG 945 (by decide +kernel) (by decide +kernel)
theorem gw_943 : Cond.methodLink RL 65 yX11_hint ∈ jq_G := jq_inG 943 (by decide +kernel) (by decide +kernel)
theorem gw_608 : Cond.code yX10_profile cX10_profile 5 (some .int) ∈ jq_G := jq_inG 608 (by decide +kernel) (by decide +kernel)
theorem gw_606 : Cond.instanceMethod yX10_profile ∈ jq_G := jq_inG 606 (by decide +kernel) (by decide +kernel)
theorem gw_607 : Cond.selects RX10 yX10_profile yX10_profile ∈ jq_G := jq_inG 607 (by decide +kernel) (by decide +kernel)
theorem gw_605 : Cond.methodLink RL 66 yX10_profile ∈ jq_G := jq_inG 605 (by decide +kernel) (by decide +kernel)
theorem gw_950 : Cond.code yX11_profile cX11_profile 6 (some .int) ∈ jq_G := jq_inG 950 (by decide +kernel) (by decide +kernel)
theorem gw_948 : Cond.instanceMethod yX11_profile ∈ jq_G := jq_inG 948 (by decide +kernel) (by decide +kernel)
theorem gw_949 : Cond.selects RX11 yX11_profile yX11_profile ∈ jq_G := jq_inG 949 (by decide +kernel) (by decide +kernel)
theorem gw_947 : Cond.methodLink RL 69 yX11_profile ∈ jq_G := jq_inG 947 (by decide +kernel) (by decide +kernel)
theorem gw_620 : Cond.code yX10_misses cX10_misses 3 (some .int) ∈ jq_G := jq_inG 620 (by decide +kernel) (by decide +kernel)
theorem gw_618 : Cond.instanceMethod yX10_misses ∈ jq_G := jq_inG 618 (by decide +kernel) (by decide +kernel)
theorem gw_619 : Cond.selects RX10 yX10_misses yX10_misses ∈ jq_G := jq_inG 619 (by decide +kernel) (by decide +kernel)
theorem gw_617 : Cond.methodLink RL 70 yX10_misses ∈ jq_G := jq_inG 617 (by decide +kernel) (by decide +kernel)
theorem gw_958 : Cond.code yX11_misses cX11_misses 3 (some .int) ∈ jq_G := jq_inG 958 (by decide +kernel) (by decide +kernel)
theorem gw_956 : Cond.instanceMethod yX11_misses ∈ jq_G := jq_inG 956 (by decide +kernel) (by decide +kernel)
theorem gw_957 : Cond.selects RX11 yX11_misses yX11_misses ∈ jq_G := jq_inG 957 (by decide +kernel) (by decide +kernel)
theorem gw_955 : Cond.methodLink RL 73 yX11_misses ∈ jq_G := jq_inG 955 (by decide +kernel) (by decide +kernel)
theorem gw_624 : Cond.code yX10_asked cX10_asked 2 (some .int) ∈ jq_G := jq_inG 624 (by decide +kernel) (by decide +kernel)
theorem gw_622 : Cond.instanceMethod yX10_asked ∈ jq_G := jq_inG 622 (by decide +kernel) (by decide +kernel)
theorem gw_623 : Cond.selects RX10 yX10_asked yX10_asked ∈ jq_G := jq_inG 623 (by decide +kernel) (by decide +kernel)
theorem gw_621 : Cond.methodLink RL 74 yX10_asked ∈ jq_G := jq_inG 621 (by decide +kernel) (by decide +kernel)
theorem gw_966 : Cond.code yX11_asked cX11_asked 2 (some .int) ∈ jq_G := jq_inG 966 (by decide +kernel) (by decide +kernel)
theorem gw_964 : Cond.instanceMethod yX11_asked ∈ jq_G := jq_inG 964 (by decide +kernel) (by decide +kernel)
theorem gw_965 : Cond.selects RX11 yX11_asked yX11_asked ∈ jq_G := jq_inG 965 (by decide +kernel) (by decide +kernel)
theorem gw_963 : Cond.methodLink RL 77 yX11_asked ∈ jq_G := jq_inG 963 (by decide +kernel) (by decide +kernel)
theorem gw_628 : Cond.code yX10_clashes cX10_clashes 2 (some .int) ∈ jq_G := jq_inG 628 (by decide +kernel) (by decide +kernel)
theorem gw_626 : Cond.instanceMethod yX10_clashes ∈ jq_G := jq_inG 626 (by decide +kernel) (by decide +kernel)
theorem gw_627 : Cond.selects RX10 yX10_clashes yX10_clashes ∈ jq_G := jq_inG 627 (by decide +kernel) (by decide +kernel)
theorem gw_625 : Cond.methodLink RL 78 yX10_clashes ∈ jq_G := jq_inG 625 (by decide +kernel) (by decide +kernel)
theorem gw_970 : Cond.code yX11_clashes cX11_clashes 2 (some .int) ∈ jq_G := jq_inG 970 (by decide +kernel) (by decide +kernel)
theorem gw_968 : Cond.instanceMethod yX11_clashes ∈ jq_G := jq_inG 968 (by decide +kernel) (by decide +kernel)
theorem gw_969 : Cond.selects RX11 yX11_clashes yX11_clashes ∈ jq_G := jq_inG 969 (by decide +kernel) (by decide +kernel)
theorem gw_967 : Cond.methodLink RL 81 yX11_clashes ∈ jq_G := jq_inG 967 (by decide +kernel) (by decide +kernel)
theorem gw_642 : Cond.code yX10_pair cX10_pair 4 (some .int) ∈ jq_G := jq_inG 642 (by decide +kernel) (by decide +kernel)
theorem gw_640 : Cond.instanceMethod yX10_pair ∈ jq_G := jq_inG 640 (by decide +kernel) (by decide +kernel)
theorem gw_641 : Cond.selects RX10 yX10_pair yX10_pair ∈ jq_G := jq_inG 641 (by decide +kernel) (by decide +kernel)
theorem gw_639 : Cond.methodLink RL 82 yX10_pair ∈ jq_G := jq_inG 639 (by decide +kernel) (by decide +kernel)
theorem gw_974 : Cond.code yX11_pair cX11_pair 3 (some .int) ∈ jq_G := jq_inG 974 (by decide +kernel) (by decide +kernel)
theorem gw_972 : Cond.instanceMethod yX11_pair ∈ jq_G := jq_inG 972 (by decide +kernel) (by decide +kernel)
theorem gw_973 : Cond.selects RX11 yX11_pair yX11_pair ∈ jq_G := jq_inG 973 (by decide +kernel) (by decide +kernel)
theorem gw_971 : Cond.methodLink RL 85 yX11_pair ∈ jq_G := jq_inG 971 (by decide +kernel) (by decide +kernel)
theorem gw_646 : Cond.code yX10_inside cX10_inside 4 (some .int) ∈ jq_G := jq_inG 646 (by decide +kernel) (by decide +kernel)
theorem gw_644 : Cond.instanceMethod yX10_inside ∈ jq_G := jq_inG 644 (by decide +kernel) (by decide +kernel)
theorem gw_645 : Cond.selects RX10 yX10_inside yX10_inside ∈ jq_G := jq_inG 645 (by decide +kernel) (by decide +kernel)
theorem gw_643 : Cond.methodLink RL 86 yX10_inside ∈ jq_G := jq_inG 643 (by decide +kernel) (by decide +kernel)
theorem gw_978 : Cond.code yX11_inside cX11_inside 5 (some .int) ∈ jq_G := jq_inG 978 (by decide +kernel) (by decide +kernel)
theorem gw_976 : Cond.instanceMethod yX11_inside ∈ jq_G := jq_inG 976 (by decide +kernel) (by decide +kernel)
theorem gw_977 : Cond.selects RX11 yX11_inside yX11_inside ∈ jq_G := jq_inG 977 (by decide +kernel) (by decide +kernel)
theorem gw_975 : Cond.methodLink RL 89 yX11_inside ∈ jq_G := jq_inG 975 (by decide +kernel) (by decide +kernel)
theorem gw_663 : Cond.code yX10_fresh cX10_fresh 3 (some .int) ∈ jq_G := jq_inG 663 (by decide +kernel) (by decide +kernel)
theorem gw_661 : Cond.instanceMethod yX10_fresh ∈ jq_G := jq_inG 661 (by decide +kernel) (by decide +kernel)
theorem gw_662 : Cond.selects RX10 yX10_fresh yX10_fresh ∈ jq_G := jq_inG 662 (by decide +kernel) (by decide +kernel)
theorem gw_660 : Cond.methodLink RL 90 yX10_fresh ∈ jq_G := jq_inG 660 (by decide +kernel) (by decide +kernel)
theorem gw_982 : Cond.code yX11_fresh cX11_fresh 3 (some .int) ∈ jq_G := jq_inG 982 (by decide +kernel) (by decide +kernel)
theorem gw_980 : Cond.instanceMethod yX11_fresh ∈ jq_G := jq_inG 980 (by decide +kernel) (by decide +kernel)
theorem gw_981 : Cond.selects RX11 yX11_fresh yX11_fresh ∈ jq_G := jq_inG 981 (by decide +kernel) (by decide +kernel)
theorem gw_979 : Cond.methodLink RL 93 yX11_fresh ∈ jq_G := jq_inG 979 (by decide +kernel) (by decide +kernel)
theorem gw_677 : Cond.code yX10_again cX10_again 7 (some .int) ∈ jq_G := jq_inG 677 (by decide +kernel) (by decide +kernel)
theorem gw_675 : Cond.instanceMethod yX10_again ∈ jq_G := jq_inG 675 (by decide +kernel) (by decide +kernel)
theorem gw_676 : Cond.selects RX10 yX10_again yX10_again ∈ jq_G := jq_inG 676 (by decide +kernel) (by decide +kernel)
theorem gw_674 : Cond.methodLink RL 94 yX10_again ∈ jq_G := jq_inG 674 (by decide +kernel) (by decide +kernel)
theorem gw_986 : Cond.code yX11_again cX11_again 5 (some .int) ∈ jq_G := jq_inG 986 (by decide +kernel) (by decide +kernel)
theorem gw_984 : Cond.instanceMethod yX11_again ∈ jq_G := jq_inG 984 (by decide +kernel) (by decide +kernel)
theorem gw_985 : Cond.selects RX11 yX11_again yX11_again ∈ jq_G := jq_inG 985 (by decide +kernel) (by decide +kernel)
theorem gw_983 : Cond.methodLink RL 97 yX11_again ∈ jq_G := jq_inG 983 (by decide +kernel) (by decide +kernel)
theorem gw_700 : Cond.code yX10_keep cX10_keep 4 (some .int) ∈ jq_G := jq_inG 700 (by decide +kernel) (by decide +kernel)
theorem gw_698 : Cond.instanceMethod yX10_keep ∈ jq_G := jq_inG 698 (by decide +kernel) (by decide +kernel)
theorem gw_699 : Cond.selects RX10 yX10_keep yX10_keep ∈ jq_G := jq_inG 699 (by decide +kernel) (by decide +kernel)
theorem gw_697 : Cond.methodLink RL 98 yX10_keep ∈ jq_G := jq_inG 697 (by decide +kernel) (by decide +kernel)
theorem gw_990 : Cond.code yX11_keep cX11_keep 4 (some .int) ∈ jq_G := jq_inG 990 (by decide +kernel) (by decide +kernel)
theorem gw_988 : Cond.instanceMethod yX11_keep ∈ jq_G := jq_inG 988 (by decide +kernel) (by decide +kernel)
theorem gw_989 : Cond.selects RX11 yX11_keep yX11_keep ∈ jq_G := jq_inG 989 (by decide +kernel) (by decide +kernel)
theorem gw_987 : Cond.methodLink RL 101 yX11_keep ∈ jq_G := jq_inG 987 (by decide +kernel) (by decide +kernel)
theorem gw_706 : Cond.code yX10_back cX10_back 4 (some .int) ∈ jq_G := jq_inG 706 (by decide +kernel) (by decide +kernel)
theorem gw_704 : Cond.instanceMethod yX10_back ∈ jq_G := jq_inG 704 (by decide +kernel) (by decide +kernel)
theorem gw_705 : Cond.selects RX10 yX10_back yX10_back ∈ jq_G := jq_inG 705 (by decide +kernel) (by decide +kernel)
theorem gw_703 : Cond.methodLink RL 102 yX10_back ∈ jq_G := jq_inG 703 (by decide +kernel) (by decide +kernel)
theorem gw_994 : Cond.code yX11_back cX11_back 4 (some .int) ∈ jq_G := jq_inG 994 (by decide +kernel) (by decide +kernel)
theorem gw_992 : Cond.instanceMethod yX11_back ∈ jq_G := jq_inG 992 (by decide +kernel) (by decide +kernel)
theorem gw_993 : Cond.selects RX11 yX11_back yX11_back ∈ jq_G := jq_inG 993 (by decide +kernel) (by decide +kernel)
theorem gw_991 : Cond.methodLink RL 105 yX11_back ∈ jq_G := jq_inG 991 (by decide +kernel) (by decide +kernel)
theorem gw_710 : Cond.code yX10_best cX10_best 3 (some .int) ∈ jq_G := jq_inG 710 (by decide +kernel) (by decide +kernel)
theorem gw_708 : Cond.instanceMethod yX10_best ∈ jq_G := jq_inG 708 (by decide +kernel) (by decide +kernel)
theorem gw_709 : Cond.selects RX10 yX10_best yX10_best ∈ jq_G := jq_inG 709 (by decide +kernel) (by decide +kernel)
theorem gw_707 : Cond.methodLink RL 106 yX10_best ∈ jq_G := jq_inG 707 (by decide +kernel) (by decide +kernel)
theorem gw_998 : Cond.code yX11_best cX11_best 5 (some .int) ∈ jq_G := jq_inG 998 (by decide +kernel) (by decide +kernel)
theorem gw_996 : Cond.instanceMethod yX11_best ∈ jq_G := jq_inG 996 (by decide +kernel) (by decide +kernel)
theorem gw_997 : Cond.selects RX11 yX11_best yX11_best ∈ jq_G := jq_inG 997 (by decide +kernel) (by decide +kernel)
theorem gw_995 : Cond.methodLink RL 110 yX11_best ∈ jq_G := jq_inG 995 (by decide +kernel) (by decide +kernel)
theorem gw_728 : Cond.code yX10_seen cX10_seen 3 (some .int) ∈ jq_G := jq_inG 728 (by decide +kernel) (by decide +kernel)
theorem gw_726 : Cond.instanceMethod yX10_seen ∈ jq_G := jq_inG 726 (by decide +kernel) (by decide +kernel)
theorem gw_727 : Cond.selects RX10 yX10_seen yX10_seen ∈ jq_G := jq_inG 727 (by decide +kernel) (by decide +kernel)
theorem gw_725 : Cond.methodLink RL 111 yX10_seen ∈ jq_G := jq_inG 725 (by decide +kernel) (by decide +kernel)
theorem gw_1006 : Cond.code yX11_seen cX11_seen 5 (some .int) ∈ jq_G := jq_inG 1006 (by decide +kernel) (by decide +kernel)
theorem gw_1004 : Cond.instanceMethod yX11_seen ∈ jq_G := jq_inG 1004 (by decide +kernel) (by decide +kernel)
theorem gw_1005 : Cond.selects RX11 yX11_seen yX11_seen ∈ jq_G := jq_inG 1005 (by decide +kernel) (by decide +kernel)
theorem gw_1003 : Cond.methodLink RL 114 yX11_seen ∈ jq_G := jq_inG 1003 (by decide +kernel) (by decide +kernel)
theorem gw_732 : Cond.code yX10_often cX10_often 3 (some .int) ∈ jq_G := jq_inG 732 (by decide +kernel) (by decide +kernel)
theorem gw_730 : Cond.instanceMethod yX10_often ∈ jq_G := jq_inG 730 (by decide +kernel) (by decide +kernel)
theorem gw_731 : Cond.selects RX10 yX10_often yX10_often ∈ jq_G := jq_inG 731 (by decide +kernel) (by decide +kernel)
theorem gw_729 : Cond.methodLink RL 115 yX10_often ∈ jq_G := jq_inG 729 (by decide +kernel) (by decide +kernel)
theorem gw_1010 : Cond.code yX11_often cX11_often 3 (some .int) ∈ jq_G := jq_inG 1010 (by decide +kernel) (by decide +kernel)
theorem gw_1008 : Cond.instanceMethod yX11_often ∈ jq_G := jq_inG 1008 (by decide +kernel) (by decide +kernel)
theorem gw_1009 : Cond.selects RX11 yX11_often yX11_often ∈ jq_G := jq_inG 1009 (by decide +kernel) (by decide +kernel)
theorem gw_1007 : Cond.methodLink RL 118 yX11_often ∈ jq_G := jq_inG 1007 (by decide +kernel) (by decide +kernel)
theorem gw_737 : Cond.code yX10_ticks cX10_ticks 3 (some .int) ∈ jq_G := jq_inG 737 (by decide +kernel) (by decide +kernel)
theorem gw_735 : Cond.instanceMethod yX10_ticks ∈ jq_G := jq_inG 735 (by decide +kernel) (by decide +kernel)
theorem gw_736 : Cond.selects RX10 yX10_ticks yX10_ticks ∈ jq_G := jq_inG 736 (by decide +kernel) (by decide +kernel)
theorem gw_734 : Cond.methodLink RL 119 yX10_ticks ∈ jq_G := jq_inG 734 (by decide +kernel) (by decide +kernel)
theorem gw_1014 : Cond.code yX11_ticks cX11_ticks 3 (some .int) ∈ jq_G := jq_inG 1014 (by decide +kernel) (by decide +kernel)
theorem gw_1012 : Cond.instanceMethod yX11_ticks ∈ jq_G := jq_inG 1012 (by decide +kernel) (by decide +kernel)
theorem gw_1013 : Cond.selects RX11 yX11_ticks yX11_ticks ∈ jq_G := jq_inG 1013 (by decide +kernel) (by decide +kernel)
theorem gw_1011 : Cond.methodLink RL 122 yX11_ticks ∈ jq_G := jq_inG 1011 (by decide +kernel) (by decide +kernel)
theorem gw_741 : Cond.code yX10_told cX10_told 2 (some .int) ∈ jq_G := jq_inG 741 (by decide +kernel) (by decide +kernel)
theorem gw_739 : Cond.instanceMethod yX10_told ∈ jq_G := jq_inG 739 (by decide +kernel) (by decide +kernel)
theorem gw_740 : Cond.selects RX10 yX10_told yX10_told ∈ jq_G := jq_inG 740 (by decide +kernel) (by decide +kernel)
theorem gw_738 : Cond.methodLink RL 123 yX10_told ∈ jq_G := jq_inG 738 (by decide +kernel) (by decide +kernel)
theorem gw_1018 : Cond.code yX11_told cX11_told 2 (some .int) ∈ jq_G := jq_inG 1018 (by decide +kernel) (by decide +kernel)
theorem gw_1016 : Cond.instanceMethod yX11_told ∈ jq_G := jq_inG 1016 (by decide +kernel) (by decide +kernel)
theorem gw_1017 : Cond.selects RX11 yX11_told yX11_told ∈ jq_G := jq_inG 1017 (by decide +kernel) (by decide +kernel)
theorem gw_1015 : Cond.methodLink RL 126 yX11_told ∈ jq_G := jq_inG 1015 (by decide +kernel) (by decide +kernel)
theorem gw_745 : Cond.code yX10_empty cX10_empty 2 (some .int) ∈ jq_G := jq_inG 745 (by decide +kernel) (by decide +kernel)
theorem gw_743 : Cond.instanceMethod yX10_empty ∈ jq_G := jq_inG 743 (by decide +kernel) (by decide +kernel)
theorem gw_744 : Cond.selects RX10 yX10_empty yX10_empty ∈ jq_G := jq_inG 744 (by decide +kernel) (by decide +kernel)
theorem gw_742 : Cond.methodLink RL 127 yX10_empty ∈ jq_G := jq_inG 742 (by decide +kernel) (by decide +kernel)
theorem gw_1022 : Cond.code yX11_empty cX11_empty 2 (some .int) ∈ jq_G := jq_inG 1022 (by decide +kernel) (by decide +kernel)
theorem gw_1020 : Cond.instanceMethod yX11_empty ∈ jq_G := jq_inG 1020 (by decide +kernel) (by decide +kernel)
theorem gw_1021 : Cond.selects RX11 yX11_empty yX11_empty ∈ jq_G := jq_inG 1021 (by decide +kernel) (by decide +kernel)
theorem gw_1019 : Cond.methodLink RL 131 yX11_empty ∈ jq_G := jq_inG 1019 (by decide +kernel) (by decide +kernel)
theorem gw_16 : Cond.classLink RL 7 RX10 ∈ jq_G := jq_inG 16 (by decide +kernel) (by decide +kernel)
theorem gw_17 : Cond.instantiable RX10 5 ∈ jq_G := jq_inG 17 (by decide +kernel) (by decide +kernel)
theorem gw_750 : Cond.classLink RL 10 RX11 ∈ jq_G := jq_inG 750 (by decide +kernel) (by decide +kernel)
theorem gw_751 : Cond.instantiable RX11 25 ∈ jq_G := jq_inG 751 (by decide +kernel) (by decide +kernel)
theorem gw_20 : Cond.code yX10_init cX10_init 1 none ∈ jq_G := jq_inG 20 (by decide +kernel) (by decide +kernel)
theorem gw_19 : Cond.instanceMethod yX10_init ∈ jq_G := jq_inG 19 (by decide +kernel) (by decide +kernel)
theorem gw_18 : Cond.methodLink RL 9 yX10_init ∈ jq_G := jq_inG 18 (by decide +kernel) (by decide +kernel)
theorem gw_754 : Cond.code yX11_init cX11_init 1 none ∈ jq_G := jq_inG 754 (by decide +kernel) (by decide +kernel)
theorem gw_753 : Cond.instanceMethod yX11_init ∈ jq_G := jq_inG 753 (by decide +kernel) (by decide +kernel)
theorem gw_752 : Cond.methodLink RL 12 yX11_init ∈ jq_G := jq_inG 752 (by decide +kernel) (by decide +kernel)
theorem mf_X10_op : jq_MF yX10_op cX10_op 7 (some .int) 5 := ⟨gw_117, gw_1, by decide +kernel, by decide +kernel, by decide +kernel⟩
theorem mf_X11_op : jq_MF yX11_op cX11_op 7 (some .int) 5 := ⟨gw_837, gw_4, by decide +kernel, by decide +kernel, by decide +kernel⟩
theorem mf_X10_register : jq_MF yX10_register cX10_register 3 (some .int) 2 := ⟨gw_134, gw_1, by decide +kernel, by decide +kernel, by decide +kernel⟩
theorem mf_X11_register : jq_MF yX11_register cX11_register 3 (some .int) 2 := ⟨gw_847, gw_4, by decide +kernel, by decide +kernel, by decide +kernel⟩
theorem mf_X10_value : jq_MF yX10_value cX10_value 2 (some .int) 1 := ⟨gw_138, gw_1, by decide +kernel, by decide +kernel, by decide +kernel⟩
theorem mf_X11_value : jq_MF yX11_value cX11_value 2 (some .int) 1 := ⟨gw_851, gw_4, by decide +kernel, by decide +kernel, by decide +kernel⟩
theorem mf_X10_data : jq_MF yX10_data cX10_data 3 (some .int) 2 := ⟨gw_142, gw_1, by decide +kernel, by decide +kernel, by decide +kernel⟩
theorem mf_X11_data : jq_MF yX11_data cX11_data 3 (some .int) 2 := ⟨gw_855, gw_4, by decide +kernel, by decide +kernel, by decide +kernel⟩
theorem mf_X10_stored : jq_MF yX10_stored cX10_stored 2 (some .int) 1 := ⟨gw_149, gw_1, by decide +kernel, by decide +kernel, by decide +kernel⟩
theorem mf_X11_stored : jq_MF yX11_stored cX11_stored 2 (some .int) 1 := ⟨gw_859, gw_4, by decide +kernel, by decide +kernel, by decide +kernel⟩
theorem mf_X10_stand : jq_MF yX10_stand cX10_stand 3 (some .int) 1 := ⟨gw_153, gw_1, by decide +kernel, by decide +kernel, by decide +kernel⟩
theorem mf_X11_stand : jq_MF yX11_stand cX11_stand 3 (some .int) 1 := ⟨gw_863, gw_4, by decide +kernel, by decide +kernel, by decide +kernel⟩
theorem mf_X10_run : jq_MF yX10_run cX10_run 5 (some .int) 1 := ⟨gw_157, gw_1, by decide +kernel, by decide +kernel, by decide +kernel⟩
theorem mf_X11_run : jq_MF yX11_run cX11_run 3 (some .int) 1 := ⟨gw_867, gw_4, by decide +kernel, by decide +kernel, by decide +kernel⟩
theorem mf_X10_branch : jq_MF yX10_branch cX10_branch 3 (some .int) 2 := ⟨gw_328, gw_1, by decide +kernel, by decide +kernel, by decide +kernel⟩
theorem mf_X11_branch : jq_MF yX11_branch cX11_branch 3 (some .int) 2 := ⟨gw_919, gw_4, by decide +kernel, by decide +kernel, by decide +kernel⟩
theorem mf_X10_at : jq_MF yX10_at cX10_at 3 (some .int) 2 := ⟨gw_335, gw_1, by decide +kernel, by decide +kernel, by decide +kernel⟩
theorem mf_X11_at : jq_MF yX11_at cX11_at 3 (some .int) 2 := ⟨gw_923, gw_4, by decide +kernel, by decide +kernel, by decide +kernel⟩
theorem mf_X10_guesser : jq_MF yX10_guesser cX10_guesser 5 (some .int) 4 := ⟨gw_347, gw_1, by decide +kernel, by decide +kernel, by decide +kernel⟩
theorem mf_X11_guesser : jq_MF yX11_guesser cX11_guesser 6 (some .int) 4 := ⟨gw_927, gw_4, by decide +kernel, by decide +kernel, by decide +kernel⟩
theorem mf_X10_guess : jq_MF yX10_guess cX10_guess 4 (some .int) 2 := ⟨gw_599, gw_1, by decide +kernel, by decide +kernel, by decide +kernel⟩
theorem mf_X11_guess : jq_MF yX11_guess cX11_guess 6 (some .int) 2 := ⟨gw_942, gw_4, by decide +kernel, by decide +kernel, by decide +kernel⟩
theorem mf_X10_hint : jq_MF yX10_hint cX10_hint 6 (some .int) 3 := ⟨gw_604, gw_1, by decide +kernel, by decide +kernel, by decide +kernel⟩
theorem mf_X11_hint : jq_MF yX11_hint cX11_hint 5 (some .int) 3 := ⟨gw_946, gw_4, by decide +kernel, by decide +kernel, by decide +kernel⟩
theorem mf_X10_profile : jq_MF yX10_profile cX10_profile 5 (some .int) 1 := ⟨gw_608, gw_1, by decide +kernel, by decide +kernel, by decide +kernel⟩
theorem mf_X11_profile : jq_MF yX11_profile cX11_profile 6 (some .int) 1 := ⟨gw_950, gw_4, by decide +kernel, by decide +kernel, by decide +kernel⟩
theorem mf_X10_misses : jq_MF yX10_misses cX10_misses 3 (some .int) 2 := ⟨gw_620, gw_1, by decide +kernel, by decide +kernel, by decide +kernel⟩
theorem mf_X11_misses : jq_MF yX11_misses cX11_misses 3 (some .int) 2 := ⟨gw_958, gw_4, by decide +kernel, by decide +kernel, by decide +kernel⟩
theorem mf_X10_asked : jq_MF yX10_asked cX10_asked 2 (some .int) 1 := ⟨gw_624, gw_1, by decide +kernel, by decide +kernel, by decide +kernel⟩
theorem mf_X11_asked : jq_MF yX11_asked cX11_asked 2 (some .int) 1 := ⟨gw_966, gw_4, by decide +kernel, by decide +kernel, by decide +kernel⟩
theorem mf_X10_clashes : jq_MF yX10_clashes cX10_clashes 2 (some .int) 1 := ⟨gw_628, gw_1, by decide +kernel, by decide +kernel, by decide +kernel⟩
theorem mf_X11_clashes : jq_MF yX11_clashes cX11_clashes 2 (some .int) 1 := ⟨gw_970, gw_4, by decide +kernel, by decide +kernel, by decide +kernel⟩
theorem mf_X10_pair : jq_MF yX10_pair cX10_pair 4 (some .int) 2 := ⟨gw_642, gw_1, by decide +kernel, by decide +kernel, by decide +kernel⟩
theorem mf_X11_pair : jq_MF yX11_pair cX11_pair 3 (some .int) 2 := ⟨gw_974, gw_4, by decide +kernel, by decide +kernel, by decide +kernel⟩
theorem mf_X10_inside : jq_MF yX10_inside cX10_inside 4 (some .int) 3 := ⟨gw_646, gw_1, by decide +kernel, by decide +kernel, by decide +kernel⟩
theorem mf_X11_inside : jq_MF yX11_inside cX11_inside 5 (some .int) 3 := ⟨gw_978, gw_4, by decide +kernel, by decide +kernel, by decide +kernel⟩
theorem mf_X10_fresh : jq_MF yX10_fresh cX10_fresh 3 (some .int) 1 := ⟨gw_663, gw_1, by decide +kernel, by decide +kernel, by decide +kernel⟩
theorem mf_X11_fresh : jq_MF yX11_fresh cX11_fresh 3 (some .int) 1 := ⟨gw_982, gw_4, by decide +kernel, by decide +kernel, by decide +kernel⟩
theorem mf_X10_again : jq_MF yX10_again cX10_again 7 (some .int) 1 := ⟨gw_677, gw_1, by decide +kernel, by decide +kernel, by decide +kernel⟩
theorem mf_X11_again : jq_MF yX11_again cX11_again 5 (some .int) 1 := ⟨gw_986, gw_4, by decide +kernel, by decide +kernel, by decide +kernel⟩
theorem mf_X10_keep : jq_MF yX10_keep cX10_keep 4 (some .int) 2 := ⟨gw_700, gw_1, by decide +kernel, by decide +kernel, by decide +kernel⟩
theorem mf_X11_keep : jq_MF yX11_keep cX11_keep 4 (some .int) 2 := ⟨gw_990, gw_4, by decide +kernel, by decide +kernel, by decide +kernel⟩
theorem mf_X10_back : jq_MF yX10_back cX10_back 4 (some .int) 2 := ⟨gw_706, gw_1, by decide +kernel, by decide +kernel, by decide +kernel⟩
theorem mf_X11_back : jq_MF yX11_back cX11_back 4 (some .int) 2 := ⟨gw_994, gw_4, by decide +kernel, by decide +kernel, by decide +kernel⟩
theorem mf_X10_best : jq_MF yX10_best cX10_best 3 (some .int) 2 := ⟨gw_710, gw_1, by decide +kernel, by decide +kernel, by decide +kernel⟩
theorem mf_X11_best : jq_MF yX11_best cX11_best 5 (some .int) 2 := ⟨gw_998, gw_4, by decide +kernel, by decide +kernel, by decide +kernel⟩
theorem mf_X10_seen : jq_MF yX10_seen cX10_seen 3 (some .int) 2 := ⟨gw_728, gw_1, by decide +kernel, by decide +kernel, by decide +kernel⟩
theorem mf_X11_seen : jq_MF yX11_seen cX11_seen 5 (some .int) 2 := ⟨gw_1006, gw_4, by decide +kernel, by decide +kernel, by decide +kernel⟩
theorem mf_X10_often : jq_MF yX10_often cX10_often 3 (some .int) 2 := ⟨gw_732, gw_1, by decide +kernel, by decide +kernel, by decide +kernel⟩
theorem mf_X11_often : jq_MF yX11_often cX11_often 3 (some .int) 2 := ⟨gw_1010, gw_4, by decide +kernel, by decide +kernel, by decide +kernel⟩
theorem mf_X10_ticks : jq_MF yX10_ticks cX10_ticks 3 (some .int) 2 := ⟨gw_737, gw_1, by decide +kernel, by decide +kernel, by decide +kernel⟩
theorem mf_X11_ticks : jq_MF yX11_ticks cX11_ticks 3 (some .int) 2 := ⟨gw_1014, gw_4, by decide +kernel, by decide +kernel, by decide +kernel⟩
theorem mf_X10_told : jq_MF yX10_told cX10_told 2 (some .int) 1 := ⟨gw_741, gw_1, by decide +kernel, by decide +kernel, by decide +kernel⟩
theorem mf_X11_told : jq_MF yX11_told cX11_told 2 (some .int) 1 := ⟨gw_1018, gw_4, by decide +kernel, by decide +kernel, by decide +kernel⟩
theorem mf_X10_empty : jq_MF yX10_empty cX10_empty 2 (some .int) 0 := ⟨gw_745, gw_1, by decide +kernel, by decide +kernel, by decide +kernel⟩
theorem mf_X11_empty : jq_MF yX11_empty cX11_empty 2 (some .int) 0 := ⟨gw_1022, gw_4, by decide +kernel, by decide +kernel, by decide +kernel⟩
theorem mf_X10_init : jq_MF yX10_init cX10_init 1 none 0 := ⟨gw_20, gw_1, by decide +kernel, by decide +kernel, by decide +kernel⟩
theorem mf_X11_init : jq_MF yX11_init cX11_init 1 none 0 := ⟨gw_754, gw_4, by decide +kernel, by decide +kernel, by decide +kernel⟩
/-! THE CLAIM OUT OF ONE WALK OF THE LAW'S BODY. Your part is whole_start (and what it stands on); all else here is the same for every law, but numbers. -/
def R_law : String := "WayGuessesLaw"
def lw_P (b : Addr) (xs : List Int32) (args : Array Value) (s : State) : Prop := args = #[.ref b] ∧ s.IntsAt b xs ∧ xs.length ≤ 3072 ∧ (Jvm.Cond.and given_1 narrow_1).before args s = true
def lw_Q (_ : Array Value) (s : State) (o : Outcome) (t : State) : Prop := o = .returned (some (.int 1)) ∧ Framed s o t [] 600000 7302250
def lw_Z (below : List Frame) (a : Array Value) (s : State) : State → Prop := fun t => ∃ o, t.status = .running ∧ Ended t below o ∧ lw_Q a s o t
/-- the law's own end, with 1 on the stack, nothing written that was there before, its room as the claim has it -/
theorem lw_ret {p : Program} {l : Launch} {e : Env} {s : State} {m : MethodId} {below : List Frame} {meth : Method} {c : Code} {b : Nat} (hx : p.tables.exec = Jvm.exec) (hb : c.code = code) (hr : meth.sig.returnType = ret) (hlocks : meth.locks = false) {pc : Nat} {H : Heap} {ls : Array Slot} (hdg : decode code pc = .ok (.ireturn, 1)) : W p l e room_1 s m #[Value.ref b] below meth c H [] 600000 7302250 (lw_Z below #[Value.ref b] s) (F0 m pc ls [.int 1]) := by
  intro T hT X
  obtain ⟨fs, hret, hrun, hended, hW, hframe⟩ := X.leave (v := some (.int 1)) (hlocks := hlocks) (fun h => by rw [hr] at h; cases h)
  have hmeth' : T.vm.method? m = some meth := X.method'
  refine ⟨T.setFrames fs, ?_, .returned (some (.int 1)), hrun, hended, rfl, ⟨_, rfl⟩, hW, hframe⟩
  jvm_step X.here [X.here.top, hx, hb, hdg, hmeth', hr, ret, narrow_b1]
  (try refine ⟨rfl, ?_⟩); (try refine ⟨rfl, ?_⟩)
  first | (intro acts; rw [hret _ acts rfl rfl rfl]) | rw [hret _ _ rfl rfl rfl]
  exact Steps.refl _
/-- what holds at the law's entry: the machine, the code, the tables' words (any of lw_tbl by 'hts w (by decide +kernel)'), the script of L ints xs at the cell b, what the Statement gives of the start (any of its parts by flat_of_before) -/
def lw_At (p : Program) (s : State) (m : MethodId) (meth : Method) (c : Code) (b L : Nat) (xs : Nat → Int32) : Prop :=
  p.tables.exec = Jvm.exec ∧ c.code = code ∧ meth.sig.returnType = ret ∧ c.maxLocals = 4 ∧ s.vm.findClass R_law = some m.cls ∧ (∀ w ∈ lw_tbl, w.before #[Value.ref b] s = true) ∧ va_X b L xs s s.heap ∧ b < s.heap.size ∧ meth.locks = false ∧ (Jvm.Cond.and given_1 narrow_1).before #[Value.ref b] s = true
set_option maxRecDepth 100000 in
set_option maxHeartbeats 4000000 in
theorem lw_ctx {p : Program} {s : State} {m : MethodId} {meth : Method} {c : Code} {b L : Nat} {xs : Nat → Int32} (C0 : lw_At p s m meth c b L xs) : ∃ (D : va_G) (ct : Nat → ClassId), jq_C p s m #[Value.ref b] c code 4 RL D ct s.heap.size := by
  obtain ⟨hx, hb, hr, hml, hown, hts, hX, hbl, hlk, hgv⟩ := C0
  have htG : ∀ w ∈ jq_G, w.before #[Value.ref b] s = true := fun w h => hts w (List.mem_filter.mp h).1
  have hN : ∀ w ∈ jq_N, va_Nw w s := by
    intro w hw
    have h1 := hts w (List.mem_append_right _ (List.mem_filter.mp hw).1)
    have h2 := (List.mem_filter.mp hw).2
    unfold jq_nk at h2
    split at h2
    · exact va_Nw.of rfl h1
    · exact va_Nw.of rfl h1
    · exact va_Nw.of rfl h1
    · exact va_Nw.of rfl h1
    · exact va_AO.of h1
    · cases h2
  obtain ⟨cX0, iX0, kX0⟩ := u_known (C := RX0) (T := TX0) (N := 11) (n := 11) htG cf_X0.2.1 (htG _ gw_550)
  obtain ⟨cX1, iX1, kX1⟩ := u_known (C := RX1) (T := TX1) (N := 11) (n := 11) htG cf_X1.2.1 (htG _ gw_360)
  obtain ⟨cX2, iX2, kX2⟩ := u_known (C := RX2) (T := TX2) (N := 9) (n := 9) htG cf_X2.2.1 (htG _ gw_577)
  obtain ⟨cX4, iX4, kX4⟩ := u_known (C := RX4) (T := TX4) (N := 10) (n := 10) htG cf_X4.2.1 (htG _ gw_210)
  obtain ⟨cX5, iX5, kX5⟩ := u_known (C := RX5) (T := TX5) (N := 8) (n := 8) htG cf_X5.2.1 (htG _ gw_532)
  obtain ⟨cX6, iX6, kX6⟩ := u_known (C := RX6) (T := TX6) (N := 8) (n := 8) htG cf_X6.2.1 (htG _ gw_25)
  obtain ⟨cX7, iX7, kX7⟩ := u_known (C := RX7) (T := TX7) (N := 8) (n := 8) htG cf_X7.2.1 (htG _ gw_63)
  obtain ⟨cX8, iX8, kX8⟩ := u_known (C := RX8) (T := TX8) (N := 9) (n := 9) htG cf_X8.2.1 (htG _ gw_232)
  obtain ⟨cX9, iX9, kX9⟩ := u_known (C := RX9) (T := TX9) (N := 9) (n := 9) htG cf_X9.2.1 (htG _ gw_244)
  obtain ⟨cX10, iX10, kX10⟩ := u_known (C := RX10) (T := TX10) (N := 5) (n := 5) htG cf_X10.2.1 (htG _ gw_17)
  obtain ⟨cX11, iX11, kX11⟩ := u_known (C := RX11) (T := TX11) (N := 25) (n := 25) htG cf_X11.2.1 (htG _ gw_751)
  obtain ⟨cI, kI, pI, fI, gI, dI⟩ := Cond.arrayClass_spec (htG _ gw_61)
  obtain ⟨cZ, kZ, pZ, fZ, gZ, dZ⟩ := Cond.arrayClass_spec (htG _ gw_833)
  obtain ⟨pG, cG, kG, fG, -, gG, dG, nG⟩ := Cond.arrayOver_spec (hN _ gw_97)
  obtain ⟨pL, cL, kL, fL, -, gL, dL, nL⟩ := Cond.arrayOver_spec (hN _ gw_369)
  refine ⟨(fun k => [cX0, cX1, cX2, cX4, cX5, cX6, cX7, cX8, cX9, cX10, cX11].getD k 0, fun k => [iX0, iX1, iX2, iX4, iX5, iX6, iX7, iX8, iX9, iX10, iX11].getD k (fun _ => 0)), fun t => [cI, cZ, cG, cL].getD t 0, hx, hb, hml, hown, htG, ⟨?_, ?_⟩, hN, Nat.le_refl _⟩
  · intro k q hq
    match k, hq with
    | 0, hq => cases hq; exact kX0
    | 1, hq => cases hq; exact kX1
    | 2, hq => cases hq; exact kX2
    | 3, hq => cases hq; exact kX4
    | 4, hq => cases hq; exact kX5
    | 5, hq => cases hq; exact kX6
    | 6, hq => cases hq; exact kX7
    | 7, hq => cases hq; exact kX8
    | 8, hq => cases hq; exact kX9
    | 9, hq => cases hq; exact kX10
    | 10, hq => cases hq; exact kX11
    | k + 11, hq => simp [vwCl] at hq
  · intro k q hq
    match k, hq with
    | 0, hq => cases hq; exact ⟨fun n z => ⟨fun k h => (by cases h), kI, gI, pI, dI⟩, fI⟩
    | 1, hq => cases hq; exact ⟨fun n z => ⟨fun k h => (by cases h), kZ, gZ, pZ, dZ⟩, fZ⟩
    | 2, hq => cases hq; exact ⟨fun n z => ⟨fun k h => (by cases h), kG, gG, pG, dG⟩, kG, pG, gG, dG, fG, nG⟩
    | 3, hq => cases hq; exact ⟨fun n z => ⟨fun k h => (by cases h), kL, gL, pL, dL⟩, kL, pL, gL, dL, fL, nL⟩
    | k + 4, hq => simp [jq_tys] at hq
