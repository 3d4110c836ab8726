-- by wip/gen/walk.py: words
theorem gw_755 : Cond.methodLink RX11 1 objectInit ∈ jq_G := jq_inG 755 (by decide +kernel) (by decide +kernel)
theorem gw_22 : Cond.instanceMethod objectInit ∈ jq_G := jq_inG 22 (by decide +kernel) (by decide +kernel)
theorem gw_23 : Cond.code objectInit ⟨#[0xb1]⟩ 1 none ∈ jq_G := jq_inG 23 (by decide +kernel) (by decide +kernel)
theorem gw_61 : Cond.arrayClass .int ∈ jq_G := jq_inG 61 (by decide +kernel) (by decide +kernel)
theorem gw_757 : Cond.fieldLink RX11 7 "WayGuessesModel" "kind" "[I" ∈ jq_G := jq_inG 757 (by decide +kernel) (by decide +kernel)
theorem gw_758 : Cond.fieldLink RX11 13 "WayGuessesModel" "opR" "[I" ∈ jq_G := jq_inG 758 (by decide +kernel) (by decide +kernel)
theorem gw_759 : Cond.fieldLink RX11 16 "WayGuessesModel" "opS" "[I" ∈ jq_G := jq_inG 759 (by decide +kernel) (by decide +kernel)
theorem gw_760 : Cond.fieldLink RX11 19 "WayGuessesModel" "opV" "[I" ∈ jq_G := jq_inG 760 (by decide +kernel) (by decide +kernel)
theorem gw_761 : Cond.fieldLink RX11 22 "WayGuessesModel" "register" "[I" ∈ jq_G := jq_inG 761 (by decide +kernel) (by decide +kernel)
theorem gw_762 : Cond.fieldLink RX11 25 "WayGuessesModel" "data" "[I" ∈ jq_G := jq_inG 762 (by decide +kernel) (by decide +kernel)
theorem gw_767 : Cond.fieldLink RX11 28 "WayGuessesModel" "rowPlace" "[I" ∈ jq_G := jq_inG 767 (by decide +kernel) (by decide +kernel)
theorem gw_768 : Cond.fieldLink RX11 31 "WayGuessesModel" "rowWay" "[I" ∈ jq_G := jq_inG 768 (by decide +kernel) (by decide +kernel)
theorem gw_770 : Cond.fieldLink RX11 34 "WayGuessesModel" "kindOf" "[I" ∈ jq_G := jq_inG 770 (by decide +kernel) (by decide +kernel)
theorem gw_771 : Cond.fieldLink RX11 37 "WayGuessesModel" "a" "[I" ∈ jq_G := jq_inG 771 (by decide +kernel) (by decide +kernel)
theorem gw_772 : Cond.fieldLink RX11 40 "WayGuessesModel" "b" "[I" ∈ jq_G := jq_inG 772 (by decide +kernel) (by decide +kernel)
theorem gw_773 : Cond.fieldLink RX11 43 "WayGuessesModel" "c" "[I" ∈ jq_G := jq_inG 773 (by decide +kernel) (by decide +kernel)
theorem gw_774 : Cond.fieldLink RX11 46 "WayGuessesModel" "hint" "[I" ∈ jq_G := jq_inG 774 (by decide +kernel) (by decide +kernel)
theorem gw_775 : Cond.fieldLink RX11 49 "WayGuessesModel" "now" "[I" ∈ jq_G := jq_inG 775 (by decide +kernel) (by decide +kernel)
theorem gw_776 : Cond.fieldLink RX11 52 "WayGuessesModel" "kept" "[I" ∈ jq_G := jq_inG 776 (by decide +kernel) (by decide +kernel)
theorem gw_833 : Cond.arrayClass .boolean ∈ jq_G := jq_inG 833 (by decide +kernel) (by decide +kernel)
theorem gw_777 : Cond.fieldLink RX11 55 "WayGuessesModel" "isKept" "[Z" ∈ jq_G := jq_inG 777 (by decide +kernel) (by decide +kernel)
theorem gw_778 : Cond.fieldLink RX11 59 "WayGuessesModel" "guessed" "[I" ∈ jq_G := jq_inG 778 (by decide +kernel) (by decide +kernel)
theorem gw_779 : Cond.fieldLink RX11 62 "WayGuessesModel" "would" "[I" ∈ jq_G := jq_inG 779 (by decide +kernel) (by decide +kernel)
theorem gw_756 : Cond.constant RX11 65 (32768) ∈ jq_G := jq_inG 756 (by decide +kernel) (by decide +kernel)
theorem gw_780 : Cond.fieldLink RX11 66 "WayGuessesModel" "count" "[I" ∈ jq_G := jq_inG 780 (by decide +kernel) (by decide +kernel)
theorem gw_781 : Cond.fieldLink RX11 69 "WayGuessesModel" "ownHistory" "[I" ∈ jq_G := jq_inG 781 (by decide +kernel) (by decide +kernel)
theorem gw_769 : Cond.fieldLink RX11 94 "WayGuessesModel" "guessers" "I" ∈ jq_G := jq_inG 769 (by decide +kernel) (by decide +kernel)
theorem gw_843 : Cond.code yX11_in cX11_in 3 (some .boolean) ∈ jq_G := jq_inG 843 (by decide +kernel) (by decide +kernel)
theorem gw_4 : Cond.initialized RX11 ∈ jq_G := jq_inG 4 (by decide +kernel) (by decide +kernel)
theorem gw_842 : Cond.static yX11_in ∈ jq_G := jq_inG 842 (by decide +kernel) (by decide +kernel)
theorem gw_841 : Cond.methodLink RX11 72 yX11_in ∈ jq_G := jq_inG 841 (by decide +kernel) (by decide +kernel)
theorem gw_894 : Cond.code yX11_low cX11_low 2 (some .int) ∈ jq_G := jq_inG 894 (by decide +kernel) (by decide +kernel)
theorem gw_893 : Cond.static yX11_low ∈ jq_G := jq_inG 893 (by decide +kernel) (by decide +kernel)
theorem gw_892 : Cond.methodLink RX11 118 yX11_low ∈ jq_G := jq_inG 892 (by decide +kernel) (by decide +kernel)
theorem gw_891 : Cond.code yX11_counter cX11_counter 6 (some .int) ∈ jq_G := jq_inG 891 (by decide +kernel) (by decide +kernel)
theorem gw_890 : Cond.instanceMethod yX11_counter ∈ jq_G := jq_inG 890 (by decide +kernel) (by decide +kernel)
theorem gs_31 : Cond.selects RX11 yX11_counter yX11_counter ∈ jq_G := jq_inS 31 (by decide +kernel) (by decide +kernel)
theorem gw_888 : Cond.methodLink RX11 122 yX11_counter ∈ jq_G := jq_inG 888 (by decide +kernel) (by decide +kernel)
theorem gw_902 : Cond.code yX11_sum cX11_sum 7 (some .int) ∈ jq_G := jq_inG 902 (by decide +kernel) (by decide +kernel)
theorem gw_901 : Cond.instanceMethod yX11_sum ∈ jq_G := jq_inG 901 (by decide +kernel) (by decide +kernel)
theorem gs_33 : Cond.selects RX11 yX11_sum yX11_sum ∈ jq_G := jq_inS 33 (by decide +kernel) (by decide +kernel)
theorem gw_899 : Cond.methodLink RX11 126 yX11_sum ∈ jq_G := jq_inG 899 (by decide +kernel) (by decide +kernel)
theorem gw_915 : Cond.constant RX11 148 (65535) ∈ jq_G := jq_inG 915 (by decide +kernel) (by decide +kernel)
theorem gw_906 : Cond.code yX11_turn cX11_turn 4 none ∈ jq_G := jq_inG 906 (by decide +kernel) (by decide +kernel)
theorem gw_905 : Cond.instanceMethod yX11_turn ∈ jq_G := jq_inG 905 (by decide +kernel) (by decide +kernel)
theorem gs_34 : Cond.selects RX11 yX11_turn yX11_turn ∈ jq_G := jq_inS 34 (by decide +kernel) (by decide +kernel)
theorem gw_903 : Cond.methodLink RX11 139 yX11_turn ∈ jq_G := jq_inG 903 (by decide +kernel) (by decide +kernel)
theorem gw_910 : Cond.code yX11_weigh cX11_weigh 10 none ∈ jq_G := jq_inG 910 (by decide +kernel) (by decide +kernel)
theorem gw_909 : Cond.instanceMethod yX11_weigh ∈ jq_G := jq_inG 909 (by decide +kernel) (by decide +kernel)
theorem gs_35 : Cond.selects RX11 yX11_weigh yX11_weigh ∈ jq_G := jq_inS 35 (by decide +kernel) (by decide +kernel)
theorem gw_907 : Cond.methodLink RX11 142 yX11_weigh ∈ jq_G := jq_inG 907 (by decide +kernel) (by decide +kernel)
theorem gw_914 : Cond.code yX11_loop cX11_loop 3 none ∈ jq_G := jq_inG 914 (by decide +kernel) (by decide +kernel)
theorem gw_913 : Cond.instanceMethod yX11_loop ∈ jq_G := jq_inG 913 (by decide +kernel) (by decide +kernel)
theorem gs_36 : Cond.selects RX11 yX11_loop yX11_loop ∈ jq_G := jq_inS 36 (by decide +kernel) (by decide +kernel)
theorem gw_911 : Cond.methodLink RX11 145 yX11_loop ∈ jq_G := jq_inG 911 (by decide +kernel) (by decide +kernel)
theorem gw_898 : Cond.code yX11_own cX11_own 8 (some .int) ∈ jq_G := jq_inG 898 (by decide +kernel) (by decide +kernel)
theorem gw_897 : Cond.instanceMethod yX11_own ∈ jq_G := jq_inG 897 (by decide +kernel) (by decide +kernel)
theorem gs_32 : Cond.selects RX11 yX11_own yX11_own ∈ jq_G := jq_inS 32 (by decide +kernel) (by decide +kernel)
theorem gw_895 : Cond.methodLink RX11 135 yX11_own ∈ jq_G := jq_inG 895 (by decide +kernel) (by decide +kernel)
theorem gw_883 : Cond.code yX11_clashes1 cX11_clashes1 3 (some .boolean) ∈ jq_G := jq_inG 883 (by decide +kernel) (by decide +kernel)
theorem gw_882 : Cond.instanceMethod yX11_clashes1 ∈ jq_G := jq_inG 882 (by decide +kernel) (by decide +kernel)
theorem gs_29 : Cond.selects RX11 yX11_clashes1 yX11_clashes1 ∈ jq_G := jq_inS 29 (by decide +kernel) (by decide +kernel)
theorem gw_880 : Cond.methodLink RX11 129 yX11_clashes1 ∈ jq_G := jq_inG 880 (by decide +kernel) (by decide +kernel)
theorem gw_887 : Cond.code yX11_clash cX11_clash 8 none ∈ jq_G := jq_inG 887 (by decide +kernel) (by decide +kernel)
theorem gw_886 : Cond.instanceMethod yX11_clash ∈ jq_G := jq_inG 886 (by decide +kernel) (by decide +kernel)
theorem gs_30 : Cond.selects RX11 yX11_clash yX11_clash ∈ jq_G := jq_inS 30 (by decide +kernel) (by decide +kernel)
theorem gw_884 : Cond.methodLink RX11 132 yX11_clash ∈ jq_G := jq_inG 884 (by decide +kernel) (by decide +kernel)
theorem gw_962 : Cond.code yX11_missesOf cX11_missesOf 4 (some .int) ∈ jq_G := jq_inG 962 (by decide +kernel) (by decide +kernel)
theorem gw_961 : Cond.instanceMethod yX11_missesOf ∈ jq_G := jq_inG 961 (by decide +kernel) (by decide +kernel)
theorem gs_40 : Cond.selects RX11 yX11_missesOf yX11_missesOf ∈ jq_G := jq_inS 40 (by decide +kernel) (by decide +kernel)
theorem gw_959 : Cond.methodLink RX11 152 yX11_missesOf ∈ jq_G := jq_inG 959 (by decide +kernel) (by decide +kernel)
theorem gw_879 : Cond.code yX11_asks cX11_asks 10 none ∈ jq_G := jq_inG 879 (by decide +kernel) (by decide +kernel)
theorem gw_878 : Cond.instanceMethod yX11_asks ∈ jq_G := jq_inG 878 (by decide +kernel) (by decide +kernel)
theorem gs_28 : Cond.selects RX11 yX11_asks yX11_asks ∈ jq_G := jq_inS 28 (by decide +kernel) (by decide +kernel)
theorem gw_876 : Cond.methodLink RX11 97 yX11_asks ∈ jq_G := jq_inG 876 (by decide +kernel) (by decide +kernel)
theorem gw_766 : Cond.fieldLink RX11 101 "WayGuessesModel" "rows" "I" ∈ jq_G := jq_inG 766 (by decide +kernel) (by decide +kernel)
theorem gw_938 : Cond.code yX11_begin cX11_begin 4 none ∈ jq_G := jq_inG 938 (by decide +kernel) (by decide +kernel)
theorem gw_937 : Cond.instanceMethod yX11_begin ∈ jq_G := jq_inG 937 (by decide +kernel) (by decide +kernel)
theorem gs_38 : Cond.selects RX11 yX11_begin yX11_begin ∈ jq_G := jq_inS 38 (by decide +kernel) (by decide +kernel)
theorem gw_935 : Cond.methodLink RX11 114 yX11_begin ∈ jq_G := jq_inG 935 (by decide +kernel) (by decide +kernel)
theorem gw_931 : Cond.code yX11_isGuesser cX11_isGuesser 2 (some .boolean) ∈ jq_G := jq_inG 931 (by decide +kernel) (by decide +kernel)
theorem gw_930 : Cond.instanceMethod yX11_isGuesser ∈ jq_G := jq_inG 930 (by decide +kernel) (by decide +kernel)
theorem gs_37 : Cond.selects RX11 yX11_isGuesser yX11_isGuesser ∈ jq_G := jq_inS 37 (by decide +kernel) (by decide +kernel)
theorem gw_928 : Cond.methodLink RX11 107 yX11_isGuesser ∈ jq_G := jq_inG 928 (by decide +kernel) (by decide +kernel)
theorem gw_1002 : Cond.code yX11_countAll cX11_countAll 8 none ∈ jq_G := jq_inG 1002 (by decide +kernel) (by decide +kernel)
theorem gw_1001 : Cond.instanceMethod yX11_countAll ∈ jq_G := jq_inG 1001 (by decide +kernel) (by decide +kernel)
theorem gs_41 : Cond.selects RX11 yX11_countAll yX11_countAll ∈ jq_G := jq_inS 41 (by decide +kernel) (by decide +kernel)
theorem gw_999 : Cond.methodLink RX11 156 yX11_countAll ∈ jq_G := jq_inG 999 (by decide +kernel) (by decide +kernel)
theorem gw_765 : Cond.fieldLink RX11 104 "WayGuessesModel" "branches" "I" ∈ jq_G := jq_inG 765 (by decide +kernel) (by decide +kernel)
theorem gw_840 : Cond.code yX11_isPlace cX11_isPlace 1 (some .boolean) ∈ jq_G := jq_inG 840 (by decide +kernel) (by decide +kernel)
theorem gw_839 : Cond.static yX11_isPlace ∈ jq_G := jq_inG 839 (by decide +kernel) (by decide +kernel)
theorem gw_838 : Cond.methodLink RX11 76 yX11_isPlace ∈ jq_G := jq_inG 838 (by decide +kernel) (by decide +kernel)
theorem gw_875 : Cond.code yX11_comes cX11_comes 4 none ∈ jq_G := jq_inG 875 (by decide +kernel) (by decide +kernel)
theorem gw_874 : Cond.instanceMethod yX11_comes ∈ jq_G := jq_inG 874 (by decide +kernel) (by decide +kernel)
theorem gs_27 : Cond.selects RX11 yX11_comes yX11_comes ∈ jq_G := jq_inS 27 (by decide +kernel) (by decide +kernel)
theorem gw_872 : Cond.methodLink RX11 84 yX11_comes ∈ jq_G := jq_inG 872 (by decide +kernel) (by decide +kernel)
theorem gw_934 : Cond.code yX11_fits cX11_fits 4 (some .boolean) ∈ jq_G := jq_inG 934 (by decide +kernel) (by decide +kernel)
theorem gw_933 : Cond.static yX11_fits ∈ jq_G := jq_inG 933 (by decide +kernel) (by decide +kernel)
theorem gw_932 : Cond.methodLink RX11 110 yX11_fits ∈ jq_G := jq_inG 932 (by decide +kernel) (by decide +kernel)
theorem gw_954 : Cond.code yX11_times cX11_times 5 (some .int) ∈ jq_G := jq_inG 954 (by decide +kernel) (by decide +kernel)
theorem gw_953 : Cond.instanceMethod yX11_times ∈ jq_G := jq_inG 953 (by decide +kernel) (by decide +kernel)
theorem gs_39 : Cond.selects RX11 yX11_times yX11_times ∈ jq_G := jq_inS 39 (by decide +kernel) (by decide +kernel)
theorem gw_951 : Cond.methodLink RX11 149 yX11_times ∈ jq_G := jq_inG 951 (by decide +kernel) (by decide +kernel)
theorem gw_763 : Cond.fieldLink RX11 80 "WayGuessesModel" "stands" "I" ∈ jq_G := jq_inG 763 (by decide +kernel) (by decide +kernel)
theorem gw_764 : Cond.fieldLink RX11 88 "WayGuessesModel" "steps" "I" ∈ jq_G := jq_inG 764 (by decide +kernel) (by decide +kernel)
theorem gw_871 : Cond.code yX11_step cX11_step 7 none ∈ jq_G := jq_inG 871 (by decide +kernel) (by decide +kernel)
theorem gw_870 : Cond.instanceMethod yX11_step ∈ jq_G := jq_inG 870 (by decide +kernel) (by decide +kernel)
theorem gs_26 : Cond.selects RX11 yX11_step yX11_step ∈ jq_G := jq_inS 26 (by decide +kernel) (by decide +kernel)
theorem gw_868 : Cond.methodLink RX11 91 yX11_step ∈ jq_G := jq_inG 868 (by decide +kernel) (by decide +kernel)
theorem gw_29 : Cond.methodLink RX6 3 objectInit ∈ jq_G := jq_inG 29 (by decide +kernel) (by decide +kernel)
theorem gw_30 : Cond.fieldLink RX6 9 "WayGuesses$Machine" "kinds" "[I" ∈ jq_G := jq_inG 30 (by decide +kernel) (by decide +kernel)
theorem gw_32 : Cond.fieldLink RX6 15 "WayGuesses$Machine" "firsts" "[I" ∈ jq_G := jq_inG 32 (by decide +kernel) (by decide +kernel)
theorem gw_33 : Cond.fieldLink RX6 18 "WayGuesses$Machine" "seconds" "[I" ∈ jq_G := jq_inG 33 (by decide +kernel) (by decide +kernel)
theorem gw_34 : Cond.fieldLink RX6 21 "WayGuesses$Machine" "numbers" "[I" ∈ jq_G := jq_inG 34 (by decide +kernel) (by decide +kernel)
theorem gw_36 : Cond.fieldLink RX6 24 "WayGuesses$Machine" "registers" "[I" ∈ jq_G := jq_inG 36 (by decide +kernel) (by decide +kernel)
theorem gw_38 : Cond.fieldLink RX6 27 "WayGuesses$Machine" "memory" "[I" ∈ jq_G := jq_inG 38 (by decide +kernel) (by decide +kernel)
theorem gw_67 : Cond.methodLink RX7 5 objectInit ∈ jq_G := jq_inG 67 (by decide +kernel) (by decide +kernel)
theorem gw_68 : Cond.fieldLink RX7 11 "WayGuesses$Row" "branches" "[I" ∈ jq_G := jq_inG 68 (by decide +kernel) (by decide +kernel)
theorem gw_69 : Cond.fieldLink RX7 15 "WayGuesses$Row" "counts" "[I" ∈ jq_G := jq_inG 69 (by decide +kernel) (by decide +kernel)
theorem gw_70 : Cond.fieldLink RX7 18 "WayGuesses$Row" "tallies" "[I" ∈ jq_G := jq_inG 70 (by decide +kernel) (by decide +kernel)
theorem gw_71 : Cond.fieldLink RX7 21 "WayGuesses$Row" "keys" "[I" ∈ jq_G := jq_inG 71 (by decide +kernel) (by decide +kernel)
theorem gw_72 : Cond.fieldLink RX7 24 "WayGuesses$Row" "histories" "[I" ∈ jq_G := jq_inG 72 (by decide +kernel) (by decide +kernel)
theorem gw_21 : Cond.methodLink RX10 3 objectInit ∈ jq_G := jq_inG 21 (by decide +kernel) (by decide +kernel)
theorem gw_24 : Cond.classLink RX10 9 RX6 ∈ jq_G := jq_inG 24 (by decide +kernel) (by decide +kernel)
theorem gw_25 : Cond.instantiable RX6 8 ∈ jq_G := jq_inG 25 (by decide +kernel) (by decide +kernel)
theorem gw_2 : Cond.initialized RX6 ∈ jq_G := jq_inG 2 (by decide +kernel) (by decide +kernel)
theorem gw_28 : Cond.code yX6_init cX6_init 1 none ∈ jq_G := jq_inG 28 (by decide +kernel) (by decide +kernel)
theorem gw_27 : Cond.instanceMethod yX6_init ∈ jq_G := jq_inG 27 (by decide +kernel) (by decide +kernel)
theorem gw_26 : Cond.methodLinkNest RX10 11 yX6_init RX10 ∈ jq_N := jq_inN 26 (by decide +kernel) (by decide +kernel)
theorem gw_98 : Cond.fieldLink RX10 12 "WayGuesses" "machine" "LWayGuesses$Machine;" ∈ jq_G := jq_inG 98 (by decide +kernel) (by decide +kernel)
theorem gw_62 : Cond.classLink RX10 16 RX7 ∈ jq_G := jq_inG 62 (by decide +kernel) (by decide +kernel)
theorem gw_63 : Cond.instantiable RX7 8 ∈ jq_G := jq_inG 63 (by decide +kernel) (by decide +kernel)
theorem gw_3 : Cond.initialized RX7 ∈ jq_G := jq_inG 3 (by decide +kernel) (by decide +kernel)
theorem gw_66 : Cond.code yX7_init cX7_init 1 none ∈ jq_G := jq_inG 66 (by decide +kernel) (by decide +kernel)
theorem gw_65 : Cond.instanceMethod yX7_init ∈ jq_G := jq_inG 65 (by decide +kernel) (by decide +kernel)
theorem gw_64 : Cond.methodLinkNest RX10 18 yX7_init RX10 ∈ jq_N := jq_inN 64 (by decide +kernel) (by decide +kernel)
theorem gw_99 : Cond.fieldLink RX10 19 "WayGuesses" "row" "LWayGuesses$Row;" ∈ jq_G := jq_inG 99 (by decide +kernel) (by decide +kernel)
theorem gw_96 : Cond.classLink RX10 23 RX3 ∈ jq_G := jq_inG 96 (by decide +kernel) (by decide +kernel)
theorem gw_97 : Cond.arrayOver (.object "WayGuesses$Guesser") ∈ jq_N := jq_inN 97 (by decide +kernel) (by decide +kernel)
theorem gw_100 : Cond.fieldLink RX10 25 "WayGuesses" "guessers" "[LWayGuesses$Guesser;" ∈ jq_G := jq_inG 100 (by decide +kernel) (by decide +kernel)
theorem gw_101 : Cond.fieldLink RX10 92 "WayGuesses" "guesserCount" "I" ∈ jq_G := jq_inG 101 (by decide +kernel) (by decide +kernel)
theorem gw_123 : Cond.code yX10_within cX10_within 3 (some .boolean) ∈ jq_G := jq_inG 123 (by decide +kernel) (by decide +kernel)
theorem gw_1 : Cond.initialized RX10 ∈ jq_G := jq_inG 1 (by decide +kernel) (by decide +kernel)
theorem gw_122 : Cond.static yX10_within ∈ jq_G := jq_inG 122 (by decide +kernel) (by decide +kernel)
theorem gw_121 : Cond.methodLink RX10 33 yX10_within ∈ jq_G := jq_inG 121 (by decide +kernel) (by decide +kernel)
theorem gw_558 : Cond.fieldLink RX0 16 "WayGuesses$Chooser" "asked" "I" ∈ jq_G := jq_inG 558 (by decide +kernel) (by decide +kernel)
theorem gw_684 : Cond.code yX10_isIn cX10_isIn 2 (some .boolean) ∈ jq_G := jq_inG 684 (by decide +kernel) (by decide +kernel)
theorem gw_683 : Cond.static yX10_isIn ∈ jq_G := jq_inG 683 (by decide +kernel) (by decide +kernel)
theorem gw_682 : Cond.methodLink RX10 150 yX10_isIn ∈ jq_G := jq_inG 682 (by decide +kernel) (by decide +kernel)
theorem gw_686 : Cond.instanceMethod yX3_asks ∈ jq_G := jq_inG 686 (by decide +kernel) (by decide +kernel)
theorem gw_696 : Cond.code yX3_asks cX3_asks 1 (some .int) ∈ jq_G := jq_inG 696 (by decide +kernel) (by decide +kernel)
theorem gw_690 : Cond.code yX0_asks cX0_asks 1 (some .int) ∈ jq_G := jq_inG 690 (by decide +kernel) (by decide +kernel)
theorem gw_14 : Cond.initialized RX0 ∈ jq_G := jq_inG 14 (by decide +kernel) (by decide +kernel)
theorem gw_689 : Cond.instanceMethod yX0_asks ∈ jq_G := jq_inG 689 (by decide +kernel) (by decide +kernel)
theorem gw_688 : Cond.selects RX0 yX3_asks yX0_asks ∈ jq_G := jq_inG 688 (by decide +kernel) (by decide +kernel)
theorem gw_685 : Cond.methodLink RX10 219 yX3_asks ∈ jq_G := jq_inG 685 (by decide +kernel) (by decide +kernel)
theorem gw_687 : Cond.sameMethod "WayGuesses$Guesser" "WayGuesses$Guesser" "asks" "()I" ∈ jq_G := jq_inG 687 (by decide +kernel) (by decide +kernel)
theorem gw_6 : Cond.initialized RX3 ∈ jq_G := jq_inG 6 (by decide +kernel) (by decide +kernel)
theorem gw_691 : Cond.selects RX1 yX3_asks yX3_asks ∈ jq_G := jq_inG 691 (by decide +kernel) (by decide +kernel)
theorem gw_692 : Cond.selects RX2 yX3_asks yX3_asks ∈ jq_G := jq_inG 692 (by decide +kernel) (by decide +kernel)
theorem gw_693 : Cond.selects RX5 yX3_asks yX3_asks ∈ jq_G := jq_inG 693 (by decide +kernel) (by decide +kernel)
theorem gw_694 : Cond.selects RX8 yX3_asks yX3_asks ∈ jq_G := jq_inG 694 (by decide +kernel) (by decide +kernel)
theorem gw_695 : Cond.selects RX9 yX3_asks yX3_asks ∈ jq_G := jq_inG 695 (by decide +kernel) (by decide +kernel)
theorem gw_379 : Cond.fieldLink RX4 21 "WayGuesses$Learnt" "cells" "[I" ∈ jq_G := jq_inG 379 (by decide +kernel) (by decide +kernel)
theorem gw_277 : Cond.methodLink RX4 36 Lib.Math.min.name ∈ jq_G := jq_inG 277 (by decide +kernel) (by decide +kernel)
theorem gw_278 : Cond.static Lib.Math.min.name ∈ jq_G := jq_inG 278 (by decide +kernel) (by decide +kernel)
theorem gw_5 : Cond.initialized RJ9 ∈ jq_G := jq_inG 5 (by decide +kernel) (by decide +kernel)
theorem gw_279 : Cond.code Lib.Math.min.name Lib.Math.min.code 2 (some .int) ∈ jq_G := jq_inG 279 (by decide +kernel) (by decide +kernel)
theorem gw_433 : Cond.methodLink RX4 42 arraycopyName ∈ jq_G := jq_inG 433 (by decide +kernel) (by decide +kernel)
theorem gw_435 : Cond.native arraycopyName ∈ jq_G := jq_inG 435 (by decide +kernel) (by decide +kernel)
theorem gw_434 : Cond.static arraycopyName ∈ jq_G := jq_inG 434 (by decide +kernel) (by decide +kernel)
theorem gw_10 : Cond.initialized RJ10 ∈ jq_G := jq_inG 10 (by decide +kernel) (by decide +kernel)
theorem gw_382 : Cond.fieldLink RX4 24 "WayGuesses$Learnt" "lastPlaces" "[I" ∈ jq_G := jq_inG 382 (by decide +kernel) (by decide +kernel)
theorem gw_384 : Cond.fieldLink RX4 9 "WayGuesses$Learnt" "ownHistories" "[I" ∈ jq_G := jq_inG 384 (by decide +kernel) (by decide +kernel)
theorem gw_386 : Cond.fieldLink RX4 15 "WayGuesses$Learnt" "missedAt" "[I" ∈ jq_G := jq_inG 386 (by decide +kernel) (by decide +kernel)
theorem gw_388 : Cond.fieldLink RX4 18 "WayGuesses$Learnt" "pairs" "[I" ∈ jq_G := jq_inG 388 (by decide +kernel) (by decide +kernel)
theorem gw_393 : Cond.fieldLink RX4 48 "WayGuesses$Learnt" "history" "I" ∈ jq_G := jq_inG 393 (by decide +kernel) (by decide +kernel)
theorem gw_394 : Cond.fieldLink RX4 52 "WayGuesses$Learnt" "asked" "I" ∈ jq_G := jq_inG 394 (by decide +kernel) (by decide +kernel)
theorem gw_396 : Cond.fieldLink RX4 55 "WayGuesses$Learnt" "missed" "I" ∈ jq_G := jq_inG 396 (by decide +kernel) (by decide +kernel)
theorem gw_398 : Cond.fieldLink RX4 58 "WayGuesses$Learnt" "clashed" "I" ∈ jq_G := jq_inG 398 (by decide +kernel) (by decide +kernel)
theorem gw_400 : Cond.fieldLink RX4 61 "WayGuesses$Learnt" "pairCount" "I" ∈ jq_G := jq_inG 400 (by decide +kernel) (by decide +kernel)
theorem gw_450 : Cond.fieldLink RX3 48 "WayGuesses$Guesser" "now" "LWayGuesses$Learnt;" ∈ jq_G := jq_inG 450 (by decide +kernel) (by decide +kernel)
theorem gw_447 : Cond.fieldLink RX3 37 "WayGuesses$Guesser" "first" "LWayGuesses$Learnt;" ∈ jq_G := jq_inG 447 (by decide +kernel) (by decide +kernel)
theorem gw_432 : Cond.code yX4_take cX4_take 2 none ∈ jq_G := jq_inG 432 (by decide +kernel) (by decide +kernel)
theorem gw_9 : Cond.initialized RX4 ∈ jq_G := jq_inG 9 (by decide +kernel) (by decide +kernel)
theorem gw_431 : Cond.instanceMethod yX4_take ∈ jq_G := jq_inG 431 (by decide +kernel) (by decide +kernel)
theorem gs_19 : Cond.selects RX4 yX4_take yX4_take ∈ jq_G := jq_inS 19 (by decide +kernel) (by decide +kernel)
theorem gw_429 : Cond.methodLinkNest RX3 51 yX4_take RX10 ∈ jq_N := jq_inN 429 (by decide +kernel) (by decide +kernel)
theorem gw_559 : Cond.fieldLink RX0 26 "WayGuesses$Chooser" "mask" "I" ∈ jq_G := jq_inG 559 (by decide +kernel) (by decide +kernel)
theorem gw_457 : Cond.fieldLink RX0 29 "WayGuesses$Chooser" "now" "LWayGuesses$Learnt;" ∈ jq_G := jq_inG 457 (by decide +kernel) (by decide +kernel)
theorem gw_458 : Cond.sameField "WayGuesses$Chooser" "WayGuesses$Guesser" "now" "LWayGuesses$Learnt;" ∈ jq_G := jq_inG 458 (by decide +kernel) (by decide +kernel)
theorem gw_206 : Cond.code yX0_slotOf cX0_slotOf 2 (some .int) ∈ jq_G := jq_inG 206 (by decide +kernel) (by decide +kernel)
theorem gw_204 : Cond.instanceMethod yX0_slotOf ∈ jq_G := jq_inG 204 (by decide +kernel) (by decide +kernel)
theorem gw_205 : Cond.selects RX0 yX0_slotOf yX0_slotOf ∈ jq_G := jq_inG 205 (by decide +kernel) (by decide +kernel)
theorem gw_203 : Cond.methodLink RX0 33 yX0_slotOf ∈ jq_G := jq_inG 203 (by decide +kernel) (by decide +kernel)
theorem gw_211 : Cond.code yX4_counterWay cX4_counterWay 2 (some .int) ∈ jq_G := jq_inG 211 (by decide +kernel) (by decide +kernel)
theorem gw_209 : Cond.instanceMethod yX4_counterWay ∈ jq_G := jq_inG 209 (by decide +kernel) (by decide +kernel)
theorem gs_5 : Cond.selects RX4 yX4_counterWay yX4_counterWay ∈ jq_G := jq_inS 5 (by decide +kernel) (by decide +kernel)
theorem gw_207 : Cond.methodLinkNest RX0 36 yX4_counterWay RX10 ∈ jq_N := jq_inN 207 (by decide +kernel) (by decide +kernel)
theorem gw_556 : Cond.fieldLink RX0 7 "WayGuesses$Chooser" "one" "LWayGuesses$Guesser;" ∈ jq_G := jq_inG 556 (by decide +kernel) (by decide +kernel)
theorem gw_466 : Cond.fieldLink RX0 41 "WayGuesses$Guesser" "said" "I" ∈ jq_G := jq_inG 466 (by decide +kernel) (by decide +kernel)
theorem gw_557 : Cond.fieldLink RX0 13 "WayGuesses$Chooser" "other" "LWayGuesses$Guesser;" ∈ jq_G := jq_inG 557 (by decide +kernel) (by decide +kernel)
theorem gw_438 : Cond.fieldLink RX1 19 "WayGuesses$Counters" "historyMask" "I" ∈ jq_G := jq_inG 438 (by decide +kernel) (by decide +kernel)
theorem gw_440 : Cond.fieldLink RX1 26 "WayGuesses$Counters" "placeTimes" "I" ∈ jq_G := jq_inG 440 (by decide +kernel) (by decide +kernel)
theorem gw_437 : Cond.fieldLink RX1 13 "WayGuesses$Counters" "mask" "I" ∈ jq_G := jq_inG 437 (by decide +kernel) (by decide +kernel)
theorem gw_439 : Cond.fieldLink RX1 22 "WayGuesses$Counters" "own" "Z" ∈ jq_G := jq_inG 439 (by decide +kernel) (by decide +kernel)
theorem gw_453 : Cond.fieldLink RX1 29 "WayGuesses$Counters" "now" "LWayGuesses$Learnt;" ∈ jq_G := jq_inG 453 (by decide +kernel) (by decide +kernel)
theorem gw_454 : Cond.sameField "WayGuesses$Counters" "WayGuesses$Guesser" "now" "LWayGuesses$Learnt;" ∈ jq_G := jq_inG 454 (by decide +kernel) (by decide +kernel)
theorem gw_391 : Cond.fieldLinkNest RX1 39 "WayGuesses$Learnt" "history" "I" "WayGuesses" ∈ jq_N := jq_inN 391 (by decide +kernel) (by decide +kernel)
theorem gw_385 : Cond.fieldLinkNest RX1 33 "WayGuesses$Learnt" "ownHistories" "[I" "WayGuesses" ∈ jq_N := jq_inN 385 (by decide +kernel) (by decide +kernel)
theorem gw_218 : Cond.code yX1_slotOf cX1_slotOf 3 (some .int) ∈ jq_G := jq_inG 218 (by decide +kernel) (by decide +kernel)
theorem gw_7 : Cond.initialized RX1 ∈ jq_G := jq_inG 7 (by decide +kernel) (by decide +kernel)
theorem gw_216 : Cond.instanceMethod yX1_slotOf ∈ jq_G := jq_inG 216 (by decide +kernel) (by decide +kernel)
theorem gw_217 : Cond.selects RX1 yX1_slotOf yX1_slotOf ∈ jq_G := jq_inG 217 (by decide +kernel) (by decide +kernel)
theorem gw_215 : Cond.methodLink RX1 42 yX1_slotOf ∈ jq_G := jq_inG 215 (by decide +kernel) (by decide +kernel)
theorem gw_219 : Cond.methodLinkNest RX1 45 yX4_counterWay RX10 ∈ jq_N := jq_inN 219 (by decide +kernel) (by decide +kernel)
theorem gw_583 : Cond.fieldLink RX2 15 "WayGuesses$Fixed" "rule" "I" ∈ jq_G := jq_inG 583 (by decide +kernel) (by decide +kernel)
theorem gw_582 : Cond.fieldLink RX2 9 "WayGuesses$Fixed" "machine" "LWayGuesses$Machine;" ∈ jq_G := jq_inG 582 (by decide +kernel) (by decide +kernel)
theorem gw_35 : Cond.fieldLinkNest RX2 19 "WayGuesses$Machine" "numbers" "[I" "WayGuesses" ∈ jq_N := jq_inN 35 (by decide +kernel) (by decide +kernel)
theorem gw_448 : Cond.fieldLink RX5 25 "WayGuesses$Loops" "now" "LWayGuesses$Learnt;" ∈ jq_G := jq_inG 448 (by decide +kernel) (by decide +kernel)
theorem gw_449 : Cond.sameField "WayGuesses$Loops" "WayGuesses$Guesser" "now" "LWayGuesses$Learnt;" ∈ jq_G := jq_inG 449 (by decide +kernel) (by decide +kernel)
theorem gw_378 : Cond.fieldLinkNest RX5 19 "WayGuesses$Learnt" "cells" "[I" "WayGuesses" ∈ jq_N := jq_inN 378 (by decide +kernel) (by decide +kernel)
theorem gw_538 : Cond.fieldLink RX5 11 "WayGuesses$Loops" "enough" "I" ∈ jq_G := jq_inG 538 (by decide +kernel) (by decide +kernel)
theorem gw_451 : Cond.fieldLink RX8 22 "WayGuesses$Votes" "now" "LWayGuesses$Learnt;" ∈ jq_G := jq_inG 451 (by decide +kernel) (by decide +kernel)
theorem gw_452 : Cond.sameField "WayGuesses$Votes" "WayGuesses$Guesser" "now" "LWayGuesses$Learnt;" ∈ jq_G := jq_inG 452 (by decide +kernel) (by decide +kernel)
theorem gw_390 : Cond.fieldLinkNest RX8 26 "WayGuesses$Learnt" "history" "I" "WayGuesses" ∈ jq_N := jq_inN 390 (by decide +kernel) (by decide +kernel)
theorem gw_498 : Cond.fieldLink RX8 19 "WayGuesses$Votes" "history" "I" ∈ jq_G := jq_inG 498 (by decide +kernel) (by decide +kernel)
theorem gw_236 : Cond.code yX10_lowBits cX10_lowBits 1 (some .int) ∈ jq_G := jq_inG 236 (by decide +kernel) (by decide +kernel)
theorem gw_235 : Cond.static yX10_lowBits ∈ jq_G := jq_inG 235 (by decide +kernel) (by decide +kernel)
theorem gw_234 : Cond.methodLinkNest RX8 9 yX10_lowBits RX10 ∈ jq_N := jq_inN 234 (by decide +kernel) (by decide +kernel)
theorem gw_462 : Cond.fieldLink RX8 29 "WayGuesses$Votes" "width" "I" ∈ jq_G := jq_inG 462 (by decide +kernel) (by decide +kernel)
theorem gw_463 : Cond.sameField "WayGuesses$Votes" "WayGuesses$Guesser" "width" "I" ∈ jq_G := jq_inG 463 (by decide +kernel) (by decide +kernel)
theorem gw_497 : Cond.fieldLink RX8 15 "WayGuesses$Votes" "mask" "I" ∈ jq_G := jq_inG 497 (by decide +kernel) (by decide +kernel)
theorem gw_233 : Cond.code yX8_cellOf cX8_cellOf 4 (some .int) ∈ jq_G := jq_inG 233 (by decide +kernel) (by decide +kernel)
theorem gw_11 : Cond.initialized RX8 ∈ jq_G := jq_inG 11 (by decide +kernel) (by decide +kernel)
theorem gw_231 : Cond.instanceMethod yX8_cellOf ∈ jq_G := jq_inG 231 (by decide +kernel) (by decide +kernel)
theorem gs_6 : Cond.selects RX8 yX8_cellOf yX8_cellOf ∈ jq_G := jq_inS 6 (by decide +kernel) (by decide +kernel)
theorem gw_229 : Cond.methodLink RX8 32 yX8_cellOf ∈ jq_G := jq_inG 229 (by decide +kernel) (by decide +kernel)
theorem gw_237 : Cond.methodLinkNest RX8 36 yX4_counterWay RX10 ∈ jq_N := jq_inN 237 (by decide +kernel) (by decide +kernel)
theorem gw_517 : Cond.fieldLink RX9 13 "WayGuesses$Weights" "mask" "I" ∈ jq_G := jq_inG 517 (by decide +kernel) (by decide +kernel)
theorem gw_455 : Cond.fieldLink RX9 22 "WayGuesses$Weights" "now" "LWayGuesses$Learnt;" ∈ jq_G := jq_inG 455 (by decide +kernel) (by decide +kernel)
theorem gw_456 : Cond.sameField "WayGuesses$Weights" "WayGuesses$Guesser" "now" "LWayGuesses$Learnt;" ∈ jq_G := jq_inG 456 (by decide +kernel) (by decide +kernel)
theorem gw_392 : Cond.fieldLinkNest RX9 26 "WayGuesses$Learnt" "history" "I" "WayGuesses" ∈ jq_N := jq_inN 392 (by decide +kernel) (by decide +kernel)
theorem gw_464 : Cond.fieldLink RX9 34 "WayGuesses$Weights" "width" "I" ∈ jq_G := jq_inG 464 (by decide +kernel) (by decide +kernel)
theorem gw_465 : Cond.sameField "WayGuesses$Weights" "WayGuesses$Guesser" "width" "I" ∈ jq_G := jq_inG 465 (by decide +kernel) (by decide +kernel)
theorem gw_253 : Cond.code yX9_bitOf cX9_bitOf 2 (some .int) ∈ jq_G := jq_inG 253 (by decide +kernel) (by decide +kernel)
theorem gw_12 : Cond.initialized RX9 ∈ jq_G := jq_inG 12 (by decide +kernel) (by decide +kernel)
theorem gw_252 : Cond.instanceMethod yX9_bitOf ∈ jq_G := jq_inG 252 (by decide +kernel) (by decide +kernel)
theorem gs_8 : Cond.selects RX9 yX9_bitOf yX9_bitOf ∈ jq_G := jq_inS 8 (by decide +kernel) (by decide +kernel)
theorem gw_250 : Cond.methodLink RX9 37 yX9_bitOf ∈ jq_G := jq_inG 250 (by decide +kernel) (by decide +kernel)
theorem gw_381 : Cond.fieldLinkNest RX9 40 "WayGuesses$Learnt" "cells" "[I" "WayGuesses" ∈ jq_N := jq_inN 381 (by decide +kernel) (by decide +kernel)
theorem gw_249 : Cond.code yX9_slotOf cX9_slotOf 2 (some .int) ∈ jq_G := jq_inG 249 (by decide +kernel) (by decide +kernel)
theorem gw_247 : Cond.instanceMethod yX9_slotOf ∈ jq_G := jq_inG 247 (by decide +kernel) (by decide +kernel)
theorem gw_248 : Cond.selects RX9 yX9_slotOf yX9_slotOf ∈ jq_G := jq_inG 248 (by decide +kernel) (by decide +kernel)
theorem gw_246 : Cond.methodLink RX9 31 yX9_slotOf ∈ jq_G := jq_inG 246 (by decide +kernel) (by decide +kernel)
theorem gw_245 : Cond.code yX9_sumAt cX9_sumAt 5 (some .int) ∈ jq_G := jq_inG 245 (by decide +kernel) (by decide +kernel)
theorem gw_243 : Cond.instanceMethod yX9_sumAt ∈ jq_G := jq_inG 243 (by decide +kernel) (by decide +kernel)
theorem gs_7 : Cond.selects RX9 yX9_sumAt yX9_sumAt ∈ jq_G := jq_inS 7 (by decide +kernel) (by decide +kernel)
theorem gw_241 : Cond.methodLink RX9 44 yX9_sumAt ∈ jq_G := jq_inG 241 (by decide +kernel) (by decide +kernel)
theorem gw_467 : Cond.fieldLink RX3 62 "WayGuesses$Guesser" "said" "I" ∈ jq_G := jq_inG 467 (by decide +kernel) (by decide +kernel)
theorem gw_441 : Cond.fieldLink RX3 9 "WayGuesses$Guesser" "hints" "[I" ∈ jq_G := jq_inG 441 (by decide +kernel) (by decide +kernel)
theorem gw_198 : Cond.declares ⟨"WayGuesses$Guesser", "ownWay", "(I)I"⟩ ∈ jq_N := jq_inN 198 (by decide +kernel) (by decide +kernel)
theorem gw_202 : Cond.code yX0_ownWay cX0_ownWay 2 (some .int) ∈ jq_G := jq_inG 202 (by decide +kernel) (by decide +kernel)
theorem gw_201 : Cond.instanceMethod yX0_ownWay ∈ jq_G := jq_inG 201 (by decide +kernel) (by decide +kernel)
theorem gw_200 : Cond.selects RX0 ⟨"WayGuesses$Guesser", "ownWay", "(I)I"⟩ yX0_ownWay ∈ jq_G := jq_inG 200 (by decide +kernel) (by decide +kernel)
theorem gw_197 : Cond.methodLink RX3 58 ⟨"WayGuesses$Guesser", "ownWay", "(I)I"⟩ ∈ jq_G := jq_inG 197 (by decide +kernel) (by decide +kernel)
theorem gw_199 : Cond.sameMethod "WayGuesses$Guesser" "WayGuesses$Guesser" "ownWay" "(I)I" ∈ jq_G := jq_inG 199 (by decide +kernel) (by decide +kernel)
theorem gw_214 : Cond.code yX1_ownWay cX1_ownWay 2 (some .int) ∈ jq_G := jq_inG 214 (by decide +kernel) (by decide +kernel)
theorem gw_213 : Cond.instanceMethod yX1_ownWay ∈ jq_G := jq_inG 213 (by decide +kernel) (by decide +kernel)
theorem gw_212 : Cond.selects RX1 ⟨"WayGuesses$Guesser", "ownWay", "(I)I"⟩ yX1_ownWay ∈ jq_G := jq_inG 212 (by decide +kernel) (by decide +kernel)
theorem gw_222 : Cond.code yX2_ownWay cX2_ownWay 2 (some .int) ∈ jq_G := jq_inG 222 (by decide +kernel) (by decide +kernel)
theorem gw_15 : Cond.initialized RX2 ∈ jq_G := jq_inG 15 (by decide +kernel) (by decide +kernel)
theorem gw_221 : Cond.instanceMethod yX2_ownWay ∈ jq_G := jq_inG 221 (by decide +kernel) (by decide +kernel)
theorem gw_220 : Cond.selects RX2 ⟨"WayGuesses$Guesser", "ownWay", "(I)I"⟩ yX2_ownWay ∈ jq_G := jq_inG 220 (by decide +kernel) (by decide +kernel)
theorem gw_225 : Cond.code yX5_ownWay cX5_ownWay 4 (some .int) ∈ jq_G := jq_inG 225 (by decide +kernel) (by decide +kernel)
theorem gw_13 : Cond.initialized RX5 ∈ jq_G := jq_inG 13 (by decide +kernel) (by decide +kernel)
theorem gw_224 : Cond.instanceMethod yX5_ownWay ∈ jq_G := jq_inG 224 (by decide +kernel) (by decide +kernel)
theorem gw_223 : Cond.selects RX5 ⟨"WayGuesses$Guesser", "ownWay", "(I)I"⟩ yX5_ownWay ∈ jq_G := jq_inG 223 (by decide +kernel) (by decide +kernel)
theorem gw_228 : Cond.code yX8_ownWay cX8_ownWay 4 (some .int) ∈ jq_G := jq_inG 228 (by decide +kernel) (by decide +kernel)
theorem gw_227 : Cond.instanceMethod yX8_ownWay ∈ jq_G := jq_inG 227 (by decide +kernel) (by decide +kernel)
theorem gw_226 : Cond.selects RX8 ⟨"WayGuesses$Guesser", "ownWay", "(I)I"⟩ yX8_ownWay ∈ jq_G := jq_inG 226 (by decide +kernel) (by decide +kernel)
theorem gw_240 : Cond.code yX9_ownWay cX9_ownWay 2 (some .int) ∈ jq_G := jq_inG 240 (by decide +kernel) (by decide +kernel)
theorem gw_239 : Cond.instanceMethod yX9_ownWay ∈ jq_G := jq_inG 239 (by decide +kernel) (by decide +kernel)
theorem gw_238 : Cond.selects RX9 ⟨"WayGuesses$Guesser", "ownWay", "(I)I"⟩ yX9_ownWay ∈ jq_G := jq_inG 238 (by decide +kernel) (by decide +kernel)
theorem gw_280 : Cond.methodLink RX4 64 Lib.Math.max.name ∈ jq_G := jq_inG 280 (by decide +kernel) (by decide +kernel)
theorem gw_281 : Cond.static Lib.Math.max.name ∈ jq_G := jq_inG 281 (by decide +kernel) (by decide +kernel)
theorem gw_282 : Cond.code Lib.Math.max.name Lib.Math.max.code 2 (some .int) ∈ jq_G := jq_inG 282 (by decide +kernel) (by decide +kernel)
theorem gw_286 : Cond.code yX4_keepPair cX4_keepPair 3 none ∈ jq_G := jq_inG 286 (by decide +kernel) (by decide +kernel)
theorem gw_285 : Cond.instanceMethod yX4_keepPair ∈ jq_G := jq_inG 285 (by decide +kernel) (by decide +kernel)
theorem gs_11 : Cond.selects RX4 yX4_keepPair yX4_keepPair ∈ jq_G := jq_inS 11 (by decide +kernel) (by decide +kernel)
theorem gw_283 : Cond.methodLink RX4 67 yX4_keepPair ∈ jq_G := jq_inG 283 (by decide +kernel) (by decide +kernel)
theorem gw_296 : Cond.code yX4_teachCounter cX4_teachCounter 3 none ∈ jq_G := jq_inG 296 (by decide +kernel) (by decide +kernel)
theorem gw_295 : Cond.instanceMethod yX4_teachCounter ∈ jq_G := jq_inG 295 (by decide +kernel) (by decide +kernel)
theorem gs_12 : Cond.selects RX4 yX4_teachCounter yX4_teachCounter ∈ jq_G := jq_inS 12 (by decide +kernel) (by decide +kernel)
theorem gw_293 : Cond.methodLinkNest RX0 44 yX4_teachCounter RX10 ∈ jq_N := jq_inN 293 (by decide +kernel) (by decide +kernel)
theorem gw_300 : Cond.methodLinkNest RX1 48 yX4_teachCounter RX10 ∈ jq_N := jq_inN 300 (by decide +kernel) (by decide +kernel)
theorem gw_307 : Cond.methodLink RX5 32 Lib.Math.min.name ∈ jq_G := jq_inG 307 (by decide +kernel) (by decide +kernel)
theorem gw_311 : Cond.methodLinkNest RX8 39 yX4_teachCounter RX10 ∈ jq_N := jq_inN 311 (by decide +kernel) (by decide +kernel)
theorem gw_318 : Cond.methodLink RX9 52 Lib.Math.min.name ∈ jq_G := jq_inG 318 (by decide +kernel) (by decide +kernel)
theorem gw_319 : Cond.methodLink RX9 56 Lib.Math.max.name ∈ jq_G := jq_inG 319 (by decide +kernel) (by decide +kernel)
theorem gw_315 : Cond.methodLink RX9 47 Lib.Math.abs.name ∈ jq_G := jq_inG 315 (by decide +kernel) (by decide +kernel)
theorem gw_316 : Cond.static Lib.Math.abs.name ∈ jq_G := jq_inG 316 (by decide +kernel) (by decide +kernel)
theorem gw_317 : Cond.code Lib.Math.abs.name Lib.Math.abs.code 1 (some .int) ∈ jq_G := jq_inG 317 (by decide +kernel) (by decide +kernel)
theorem gw_518 : Cond.fieldLink RX9 19 "WayGuesses$Weights" "sure" "I" ∈ jq_G := jq_inG 518 (by decide +kernel) (by decide +kernel)
theorem gw_324 : Cond.methodLinkNest RX4 71 yX10_lowBits RX10 ∈ jq_N := jq_inN 324 (by decide +kernel) (by decide +kernel)
theorem gw_288 : Cond.declares ⟨"WayGuesses$Guesser", "learn", "(II)V"⟩ ∈ jq_N := jq_inN 288 (by decide +kernel) (by decide +kernel)
theorem gw_292 : Cond.code yX0_learn cX0_learn 3 none ∈ jq_G := jq_inG 292 (by decide +kernel) (by decide +kernel)
theorem gw_291 : Cond.instanceMethod yX0_learn ∈ jq_G := jq_inG 291 (by decide +kernel) (by decide +kernel)
theorem gw_290 : Cond.selects RX0 ⟨"WayGuesses$Guesser", "learn", "(II)V"⟩ yX0_learn ∈ jq_G := jq_inG 290 (by decide +kernel) (by decide +kernel)
theorem gw_287 : Cond.methodLink RX3 79 ⟨"WayGuesses$Guesser", "learn", "(II)V"⟩ ∈ jq_G := jq_inG 287 (by decide +kernel) (by decide +kernel)
theorem gw_289 : Cond.sameMethod "WayGuesses$Guesser" "WayGuesses$Guesser" "learn" "(II)V" ∈ jq_G := jq_inG 289 (by decide +kernel) (by decide +kernel)
theorem gw_299 : Cond.code yX1_learn cX1_learn 3 none ∈ jq_G := jq_inG 299 (by decide +kernel) (by decide +kernel)
theorem gw_298 : Cond.instanceMethod yX1_learn ∈ jq_G := jq_inG 298 (by decide +kernel) (by decide +kernel)
theorem gw_297 : Cond.selects RX1 ⟨"WayGuesses$Guesser", "learn", "(II)V"⟩ yX1_learn ∈ jq_G := jq_inG 297 (by decide +kernel) (by decide +kernel)
theorem gw_303 : Cond.code yX2_learn cX2_learn 3 none ∈ jq_G := jq_inG 303 (by decide +kernel) (by decide +kernel)
theorem gw_302 : Cond.instanceMethod yX2_learn ∈ jq_G := jq_inG 302 (by decide +kernel) (by decide +kernel)
theorem gw_301 : Cond.selects RX2 ⟨"WayGuesses$Guesser", "learn", "(II)V"⟩ yX2_learn ∈ jq_G := jq_inG 301 (by decide +kernel) (by decide +kernel)
theorem gw_306 : Cond.code yX5_learn cX5_learn 6 none ∈ jq_G := jq_inG 306 (by decide +kernel) (by decide +kernel)
theorem gw_305 : Cond.instanceMethod yX5_learn ∈ jq_G := jq_inG 305 (by decide +kernel) (by decide +kernel)
theorem gw_304 : Cond.selects RX5 ⟨"WayGuesses$Guesser", "learn", "(II)V"⟩ yX5_learn ∈ jq_G := jq_inG 304 (by decide +kernel) (by decide +kernel)
theorem gw_310 : Cond.code yX8_learn cX8_learn 4 none ∈ jq_G := jq_inG 310 (by decide +kernel) (by decide +kernel)
theorem gw_309 : Cond.instanceMethod yX8_learn ∈ jq_G := jq_inG 309 (by decide +kernel) (by decide +kernel)
theorem gw_308 : Cond.selects RX8 ⟨"WayGuesses$Guesser", "learn", "(II)V"⟩ yX8_learn ∈ jq_G := jq_inG 308 (by decide +kernel) (by decide +kernel)
theorem gw_314 : Cond.code yX9_learn cX9_learn 8 none ∈ jq_G := jq_inG 314 (by decide +kernel) (by decide +kernel)
theorem gw_313 : Cond.instanceMethod yX9_learn ∈ jq_G := jq_inG 313 (by decide +kernel) (by decide +kernel)
theorem gw_312 : Cond.selects RX9 ⟨"WayGuesses$Guesser", "learn", "(II)V"⟩ yX9_learn ∈ jq_G := jq_inG 312 (by decide +kernel) (by decide +kernel)
theorem gw_323 : Cond.code yX4_addWay cX4_addWay 3 none ∈ jq_G := jq_inG 323 (by decide +kernel) (by decide +kernel)
theorem gw_322 : Cond.instanceMethod yX4_addWay ∈ jq_G := jq_inG 322 (by decide +kernel) (by decide +kernel)
theorem gs_13 : Cond.selects RX4 yX4_addWay yX4_addWay ∈ jq_G := jq_inS 13 (by decide +kernel) (by decide +kernel)
theorem gw_320 : Cond.methodLinkNest RX3 82 yX4_addWay RX10 ∈ jq_N := jq_inN 320 (by decide +kernel) (by decide +kernel)
theorem gw_257 : Cond.code yX4_countAsked cX4_countAsked 3 none ∈ jq_G := jq_inG 257 (by decide +kernel) (by decide +kernel)
theorem gw_256 : Cond.instanceMethod yX4_countAsked ∈ jq_G := jq_inG 256 (by decide +kernel) (by decide +kernel)
theorem gs_9 : Cond.selects RX4 yX4_countAsked yX4_countAsked ∈ jq_G := jq_inS 9 (by decide +kernel) (by decide +kernel)
theorem gw_254 : Cond.methodLinkNest RX3 69 yX4_countAsked RX10 ∈ jq_N := jq_inN 254 (by decide +kernel) (by decide +kernel)
theorem gw_259 : Cond.declares ⟨"WayGuesses$Guesser", "slotOf", "(I)I"⟩ ∈ jq_N := jq_inN 259 (by decide +kernel) (by decide +kernel)
theorem gw_261 : Cond.selects RX0 ⟨"WayGuesses$Guesser", "slotOf", "(I)I"⟩ yX0_slotOf ∈ jq_G := jq_inG 261 (by decide +kernel) (by decide +kernel)
theorem gw_258 : Cond.methodLink RX3 73 ⟨"WayGuesses$Guesser", "slotOf", "(I)I"⟩ ∈ jq_G := jq_inG 258 (by decide +kernel) (by decide +kernel)
theorem gw_260 : Cond.sameMethod "WayGuesses$Guesser" "WayGuesses$Guesser" "slotOf" "(I)I" ∈ jq_G := jq_inG 260 (by decide +kernel) (by decide +kernel)
theorem gw_262 : Cond.selects RX1 ⟨"WayGuesses$Guesser", "slotOf", "(I)I"⟩ yX1_slotOf ∈ jq_G := jq_inG 262 (by decide +kernel) (by decide +kernel)
theorem gw_265 : Cond.code yX2_slotOf cX2_slotOf 2 (some .int) ∈ jq_G := jq_inG 265 (by decide +kernel) (by decide +kernel)
theorem gw_264 : Cond.instanceMethod yX2_slotOf ∈ jq_G := jq_inG 264 (by decide +kernel) (by decide +kernel)
theorem gw_263 : Cond.selects RX2 ⟨"WayGuesses$Guesser", "slotOf", "(I)I"⟩ yX2_slotOf ∈ jq_G := jq_inG 263 (by decide +kernel) (by decide +kernel)
theorem gw_268 : Cond.code yX5_slotOf cX5_slotOf 2 (some .int) ∈ jq_G := jq_inG 268 (by decide +kernel) (by decide +kernel)
theorem gw_267 : Cond.instanceMethod yX5_slotOf ∈ jq_G := jq_inG 267 (by decide +kernel) (by decide +kernel)
theorem gw_266 : Cond.selects RX5 ⟨"WayGuesses$Guesser", "slotOf", "(I)I"⟩ yX5_slotOf ∈ jq_G := jq_inG 266 (by decide +kernel) (by decide +kernel)
theorem gw_271 : Cond.code yX8_slotOf cX8_slotOf 2 (some .int) ∈ jq_G := jq_inG 271 (by decide +kernel) (by decide +kernel)
theorem gw_270 : Cond.instanceMethod yX8_slotOf ∈ jq_G := jq_inG 270 (by decide +kernel) (by decide +kernel)
theorem gw_269 : Cond.selects RX8 ⟨"WayGuesses$Guesser", "slotOf", "(I)I"⟩ yX8_slotOf ∈ jq_G := jq_inG 269 (by decide +kernel) (by decide +kernel)
theorem gw_272 : Cond.selects RX9 ⟨"WayGuesses$Guesser", "slotOf", "(I)I"⟩ yX9_slotOf ∈ jq_G := jq_inG 272 (by decide +kernel) (by decide +kernel)
theorem gw_276 : Cond.code yX4_useSlot cX4_useSlot 4 none ∈ jq_G := jq_inG 276 (by decide +kernel) (by decide +kernel)
theorem gw_275 : Cond.instanceMethod yX4_useSlot ∈ jq_G := jq_inG 275 (by decide +kernel) (by decide +kernel)
theorem gs_10 : Cond.selects RX4 yX4_useSlot yX4_useSlot ∈ jq_G := jq_inS 10 (by decide +kernel) (by decide +kernel)
theorem gw_273 : Cond.methodLinkNest RX3 76 yX4_useSlot RX10 ∈ jq_N := jq_inN 273 (by decide +kernel) (by decide +kernel)
theorem gw_188 : Cond.instanceMethod yX3_say ∈ jq_G := jq_inG 188 (by decide +kernel) (by decide +kernel)
theorem gw_196 : Cond.code yX3_say cX3_say 2 none ∈ jq_G := jq_inG 196 (by decide +kernel) (by decide +kernel)
theorem gw_190 : Cond.selects RX0 yX3_say yX3_say ∈ jq_G := jq_inG 190 (by decide +kernel) (by decide +kernel)
theorem gw_187 : Cond.methodLink RX3 65 yX3_say ∈ jq_G := jq_inG 187 (by decide +kernel) (by decide +kernel)
theorem gw_189 : Cond.sameMethod "WayGuesses$Guesser" "WayGuesses$Guesser" "say" "(I)V" ∈ jq_G := jq_inG 189 (by decide +kernel) (by decide +kernel)
theorem gw_191 : Cond.selects RX1 yX3_say yX3_say ∈ jq_G := jq_inG 191 (by decide +kernel) (by decide +kernel)
theorem gw_192 : Cond.selects RX2 yX3_say yX3_say ∈ jq_G := jq_inG 192 (by decide +kernel) (by decide +kernel)
theorem gw_193 : Cond.selects RX5 yX3_say yX3_say ∈ jq_G := jq_inG 193 (by decide +kernel) (by decide +kernel)
theorem gw_194 : Cond.selects RX8 yX3_say yX3_say ∈ jq_G := jq_inG 194 (by decide +kernel) (by decide +kernel)
theorem gw_195 : Cond.selects RX9 yX3_say yX3_say ∈ jq_G := jq_inG 195 (by decide +kernel) (by decide +kernel)
theorem gw_459 : Cond.fieldLink RX10 112 "WayGuesses$Guesser" "now" "LWayGuesses$Learnt;" ∈ jq_G := jq_inG 459 (by decide +kernel) (by decide +kernel)
theorem gw_397 : Cond.fieldLinkNest RX10 116 "WayGuesses$Learnt" "missed" "I" "WayGuesses" ∈ jq_N := jq_inN 397 (by decide +kernel) (by decide +kernel)
theorem gw_178 : Cond.instanceMethod yX3_meetBranch ∈ jq_G := jq_inG 178 (by decide +kernel) (by decide +kernel)
theorem gw_186 : Cond.code yX3_meetBranch cX3_meetBranch 4 none ∈ jq_G := jq_inG 186 (by decide +kernel) (by decide +kernel)
theorem gw_180 : Cond.selects RX0 yX3_meetBranch yX3_meetBranch ∈ jq_G := jq_inG 180 (by decide +kernel) (by decide +kernel)
theorem gw_177 : Cond.methodLink RX10 154 yX3_meetBranch ∈ jq_G := jq_inG 177 (by decide +kernel) (by decide +kernel)
theorem gw_179 : Cond.sameMethod "WayGuesses$Guesser" "WayGuesses$Guesser" "meetBranch" "(II)V" ∈ jq_G := jq_inG 179 (by decide +kernel) (by decide +kernel)
theorem gw_181 : Cond.selects RX1 yX3_meetBranch yX3_meetBranch ∈ jq_G := jq_inG 181 (by decide +kernel) (by decide +kernel)
theorem gw_182 : Cond.selects RX2 yX3_meetBranch yX3_meetBranch ∈ jq_G := jq_inG 182 (by decide +kernel) (by decide +kernel)
theorem gw_183 : Cond.selects RX5 yX3_meetBranch yX3_meetBranch ∈ jq_G := jq_inG 183 (by decide +kernel) (by decide +kernel)
theorem gw_184 : Cond.selects RX8 yX3_meetBranch yX3_meetBranch ∈ jq_G := jq_inG 184 (by decide +kernel) (by decide +kernel)
theorem gw_185 : Cond.selects RX9 yX3_meetBranch yX3_meetBranch ∈ jq_G := jq_inG 185 (by decide +kernel) (by decide +kernel)
theorem gw_74 : Cond.fieldLinkNest RX10 75 "WayGuesses$Row" "size" "I" "WayGuesses" ∈ jq_N := jq_inN 74 (by decide +kernel) (by decide +kernel)
theorem gw_339 : Cond.code yX7_placeOf cX7_placeOf 2 (some .int) ∈ jq_G := jq_inG 339 (by decide +kernel) (by decide +kernel)
theorem gw_338 : Cond.instanceMethod yX7_placeOf ∈ jq_G := jq_inG 338 (by decide +kernel) (by decide +kernel)
theorem gs_14 : Cond.selects RX7 yX7_placeOf yX7_placeOf ∈ jq_G := jq_inS 14 (by decide +kernel) (by decide +kernel)
theorem gw_336 : Cond.methodLinkNest RX10 78 yX7_placeOf RX10 ∈ jq_N := jq_inN 336 (by decide +kernel) (by decide +kernel)
theorem gw_343 : Cond.code yX7_wayOf cX7_wayOf 2 (some .int) ∈ jq_G := jq_inG 343 (by decide +kernel) (by decide +kernel)
theorem gw_342 : Cond.instanceMethod yX7_wayOf ∈ jq_G := jq_inG 342 (by decide +kernel) (by decide +kernel)
theorem gs_15 : Cond.selects RX7 yX7_wayOf yX7_wayOf ∈ jq_G := jq_inS 15 (by decide +kernel) (by decide +kernel)
theorem gw_340 : Cond.methodLinkNest RX10 82 yX7_wayOf RX10 ∈ jq_N := jq_inN 340 (by decide +kernel) (by decide +kernel)
theorem gw_665 : Cond.instanceMethod yX3_forget ∈ jq_G := jq_inG 665 (by decide +kernel) (by decide +kernel)
theorem gw_673 : Cond.code yX3_forget cX3_forget 1 none ∈ jq_G := jq_inG 673 (by decide +kernel) (by decide +kernel)
theorem gw_667 : Cond.selects RX0 yX3_forget yX3_forget ∈ jq_G := jq_inG 667 (by decide +kernel) (by decide +kernel)
theorem gw_664 : Cond.methodLink RX10 144 yX3_forget ∈ jq_G := jq_inG 664 (by decide +kernel) (by decide +kernel)
theorem gw_666 : Cond.sameMethod "WayGuesses$Guesser" "WayGuesses$Guesser" "forget" "()V" ∈ jq_G := jq_inG 666 (by decide +kernel) (by decide +kernel)
theorem gw_668 : Cond.selects RX1 yX3_forget yX3_forget ∈ jq_G := jq_inG 668 (by decide +kernel) (by decide +kernel)
theorem gw_669 : Cond.selects RX2 yX3_forget yX3_forget ∈ jq_G := jq_inG 669 (by decide +kernel) (by decide +kernel)
theorem gw_670 : Cond.selects RX5 yX3_forget yX3_forget ∈ jq_G := jq_inG 670 (by decide +kernel) (by decide +kernel)
theorem gw_671 : Cond.selects RX8 yX3_forget yX3_forget ∈ jq_G := jq_inG 671 (by decide +kernel) (by decide +kernel)
theorem gw_672 : Cond.selects RX9 yX3_forget yX3_forget ∈ jq_G := jq_inG 672 (by decide +kernel) (by decide +kernel)
theorem gw_351 : Cond.code yX10_isGuesser cX10_isGuesser 2 (some .boolean) ∈ jq_G := jq_inG 351 (by decide +kernel) (by decide +kernel)
theorem gw_350 : Cond.instanceMethod yX10_isGuesser ∈ jq_G := jq_inG 350 (by decide +kernel) (by decide +kernel)
theorem gs_16 : Cond.selects RX10 yX10_isGuesser yX10_isGuesser ∈ jq_G := jq_inS 16 (by decide +kernel) (by decide +kernel)
theorem gw_348 : Cond.methodLink RX10 85 yX10_isGuesser ∈ jq_G := jq_inG 348 (by decide +kernel) (by decide +kernel)
theorem gw_681 : Cond.code yX10_groupOf cX10_groupOf 4 (some .int) ∈ jq_G := jq_inG 681 (by decide +kernel) (by decide +kernel)
theorem gw_680 : Cond.instanceMethod yX10_groupOf ∈ jq_G := jq_inG 680 (by decide +kernel) (by decide +kernel)
theorem gs_22 : Cond.selects RX10 yX10_groupOf yX10_groupOf ∈ jq_G := jq_inS 22 (by decide +kernel) (by decide +kernel)
theorem gw_678 : Cond.methodLink RX10 147 yX10_groupOf ∈ jq_G := jq_inG 678 (by decide +kernel) (by decide +kernel)
theorem gw_395 : Cond.fieldLinkNest RX10 124 "WayGuesses$Learnt" "asked" "I" "WayGuesses" ∈ jq_N := jq_inN 395 (by decide +kernel) (by decide +kernel)
theorem gw_444 : Cond.fieldLink RX10 157 "WayGuesses$Guesser" "kept" "[LWayGuesses$Learnt;" ∈ jq_G := jq_inG 444 (by decide +kernel) (by decide +kernel)
theorem gw_702 : Cond.methodLinkNest RX10 165 yX4_take RX10 ∈ jq_N := jq_inN 702 (by decide +kernel) (by decide +kernel)
theorem gw_723 : Cond.constant RX7 62 (65536) ∈ jq_G := jq_inG 723 (by decide +kernel) (by decide +kernel)
theorem gw_75 : Cond.fieldLink RX7 41 "WayGuesses$Row" "leastMisses" "I" ∈ jq_G := jq_inG 75 (by decide +kernel) (by decide +kernel)
theorem gw_722 : Cond.constant RX7 61 (65535) ∈ jq_G := jq_inG 722 (by decide +kernel) (by decide +kernel)
theorem gw_77 : Cond.fieldLink RX7 44 "WayGuesses$Row" "unlike" "I" ∈ jq_G := jq_inG 77 (by decide +kernel) (by decide +kernel)
theorem gw_73 : Cond.fieldLink RX7 27 "WayGuesses$Row" "size" "I" ∈ jq_G := jq_inG 73 (by decide +kernel) (by decide +kernel)
theorem gw_721 : Cond.code yX7_tally cX7_tally 5 none ∈ jq_G := jq_inG 721 (by decide +kernel) (by decide +kernel)
theorem gw_720 : Cond.instanceMethod yX7_tally ∈ jq_G := jq_inG 720 (by decide +kernel) (by decide +kernel)
theorem gs_24 : Cond.selects RX7 yX7_tally yX7_tally ∈ jq_G := jq_inS 24 (by decide +kernel) (by decide +kernel)
theorem gw_718 : Cond.methodLink RX7 54 yX7_tally ∈ jq_G := jq_inG 718 (by decide +kernel) (by decide +kernel)
theorem gw_724 : Cond.methodLinkNest RX7 58 yX10_lowBits RX10 ∈ jq_N := jq_inN 724 (by decide +kernel) (by decide +kernel)
theorem gw_716 : Cond.methodLink RX7 47 yX7_placeOf ∈ jq_G := jq_inG 716 (by decide +kernel) (by decide +kernel)
theorem gw_717 : Cond.methodLink RX7 51 yX7_wayOf ∈ jq_G := jq_inG 717 (by decide +kernel) (by decide +kernel)
theorem gw_372 : Cond.code yJ7_fill_53178 cJ7_fill_53178 4 none ∈ jq_G := jq_inG 372 (by decide +kernel) (by decide +kernel)
theorem gw_8 : Cond.initialized RJ7 ∈ jq_G := jq_inG 8 (by decide +kernel) (by decide +kernel)
theorem gw_371 : Cond.static yJ7_fill_53178 ∈ jq_G := jq_inG 371 (by decide +kernel) (by decide +kernel)
theorem gw_715 : Cond.methodLink RX7 31 yJ7_fill_53178 ∈ jq_G := jq_inG 715 (by decide +kernel) (by decide +kernel)
theorem gw_714 : Cond.code yX7_survey cX7_survey 7 none ∈ jq_G := jq_inG 714 (by decide +kernel) (by decide +kernel)
theorem gw_713 : Cond.instanceMethod yX7_survey ∈ jq_G := jq_inG 713 (by decide +kernel) (by decide +kernel)
theorem gs_23 : Cond.selects RX7 yX7_survey yX7_survey ∈ jq_G := jq_inS 23 (by decide +kernel) (by decide +kernel)
theorem gw_711 : Cond.methodLinkNest RX10 169 yX7_survey RX10 ∈ jq_N := jq_inN 711 (by decide +kernel) (by decide +kernel)
theorem gw_76 : Cond.fieldLinkNest RX10 173 "WayGuesses$Row" "leastMisses" "I" "WayGuesses" ∈ jq_N := jq_inN 76 (by decide +kernel) (by decide +kernel)
theorem gw_102 : Cond.fieldLink RX10 72 "WayGuesses" "branchesEver" "I" ∈ jq_G := jq_inG 102 (by decide +kernel) (by decide +kernel)
theorem gw_176 : Cond.code yX7_add cX7_add 3 none ∈ jq_G := jq_inG 176 (by decide +kernel) (by decide +kernel)
theorem gw_175 : Cond.instanceMethod yX7_add ∈ jq_G := jq_inG 175 (by decide +kernel) (by decide +kernel)
theorem gs_4 : Cond.selects RX7 yX7_add yX7_add ∈ jq_G := jq_inS 4 (by decide +kernel) (by decide +kernel)
theorem gw_173 : Cond.methodLinkNest RX10 188 yX7_add RX10 ∈ jq_N := jq_inN 173 (by decide +kernel) (by decide +kernel)
theorem gw_120 : Cond.code yX10_isPlace cX10_isPlace 1 (some .boolean) ∈ jq_G := jq_inG 120 (by decide +kernel) (by decide +kernel)
theorem gw_119 : Cond.static yX10_isPlace ∈ jq_G := jq_inG 119 (by decide +kernel) (by decide +kernel)
theorem gw_118 : Cond.methodLink RX10 29 yX10_isPlace ∈ jq_G := jq_inG 118 (by decide +kernel) (by decide +kernel)
theorem gw_331 : Cond.code yX10_isWay cX10_isWay 1 (some .boolean) ∈ jq_G := jq_inG 331 (by decide +kernel) (by decide +kernel)
theorem gw_330 : Cond.static yX10_isWay ∈ jq_G := jq_inG 330 (by decide +kernel) (by decide +kernel)
theorem gw_329 : Cond.methodLink RX10 69 yX10_isWay ∈ jq_G := jq_inG 329 (by decide +kernel) (by decide +kernel)
theorem gw_172 : Cond.code yX10_meet cX10_meet 4 none ∈ jq_G := jq_inG 172 (by decide +kernel) (by decide +kernel)
theorem gw_171 : Cond.instanceMethod yX10_meet ∈ jq_G := jq_inG 171 (by decide +kernel) (by decide +kernel)
theorem gs_3 : Cond.selects RX10 yX10_meet yX10_meet ∈ jq_G := jq_inS 3 (by decide +kernel) (by decide +kernel)
theorem gw_169 : Cond.methodLink RX10 65 yX10_meet ∈ jq_G := jq_inG 169 (by decide +kernel) (by decide +kernel)
theorem gw_383 : Cond.fieldLinkNest RX3 55 "WayGuesses$Learnt" "lastPlaces" "[I" "WayGuesses" ∈ jq_N := jq_inN 383 (by decide +kernel) (by decide +kernel)
theorem gw_630 : Cond.instanceMethod yX3_canClash ∈ jq_G := jq_inG 630 (by decide +kernel) (by decide +kernel)
theorem gw_638 : Cond.code yX3_canClash cX3_canClash 1 (some .boolean) ∈ jq_G := jq_inG 638 (by decide +kernel) (by decide +kernel)
theorem gw_632 : Cond.selects RX0 yX3_canClash yX3_canClash ∈ jq_G := jq_inG 632 (by decide +kernel) (by decide +kernel)
theorem gw_629 : Cond.methodLink RX10 127 yX3_canClash ∈ jq_G := jq_inG 629 (by decide +kernel) (by decide +kernel)
theorem gw_631 : Cond.sameMethod "WayGuesses$Guesser" "WayGuesses$Guesser" "canClash" "()Z" ∈ jq_G := jq_inG 631 (by decide +kernel) (by decide +kernel)
theorem gw_633 : Cond.selects RX1 yX3_canClash yX3_canClash ∈ jq_G := jq_inG 633 (by decide +kernel) (by decide +kernel)
theorem gw_634 : Cond.selects RX2 yX3_canClash yX3_canClash ∈ jq_G := jq_inG 634 (by decide +kernel) (by decide +kernel)
theorem gw_635 : Cond.selects RX5 yX3_canClash yX3_canClash ∈ jq_G := jq_inG 635 (by decide +kernel) (by decide +kernel)
theorem gw_636 : Cond.selects RX8 yX3_canClash yX3_canClash ∈ jq_G := jq_inG 636 (by decide +kernel) (by decide +kernel)
theorem gw_637 : Cond.selects RX9 yX3_canClash yX3_canClash ∈ jq_G := jq_inG 637 (by decide +kernel) (by decide +kernel)
theorem gw_399 : Cond.fieldLinkNest RX10 131 "WayGuesses$Learnt" "clashed" "I" "WayGuesses" ∈ jq_N := jq_inN 399 (by decide +kernel) (by decide +kernel)
theorem gw_145 : Cond.code yX10_isData cX10_isData 1 (some .boolean) ∈ jq_G := jq_inG 145 (by decide +kernel) (by decide +kernel)
theorem gw_144 : Cond.static yX10_isData ∈ jq_G := jq_inG 144 (by decide +kernel) (by decide +kernel)
theorem gw_143 : Cond.methodLink RX10 51 yX10_isData ∈ jq_G := jq_inG 143 (by decide +kernel) (by decide +kernel)
theorem gw_39 : Cond.fieldLinkNest RX10 54 "WayGuesses$Machine" "memory" "[I" "WayGuesses" ∈ jq_N := jq_inN 39 (by decide +kernel) (by decide +kernel)
theorem gw_749 : Cond.code yX7_clear cX7_clear 1 none ∈ jq_G := jq_inG 749 (by decide +kernel) (by decide +kernel)
theorem gw_748 : Cond.instanceMethod yX7_clear ∈ jq_G := jq_inG 748 (by decide +kernel) (by decide +kernel)
theorem gs_25 : Cond.selects RX7 yX7_clear yX7_clear ∈ jq_G := jq_inS 25 (by decide +kernel) (by decide +kernel)
theorem gw_746 : Cond.methodLinkNest RX10 185 yX7_clear RX10 ∈ jq_N := jq_inN 746 (by decide +kernel) (by decide +kernel)
theorem gw_468 : Cond.fieldLink RX10 103 "WayGuesses$Guesser" "said" "I" ∈ jq_G := jq_inG 468 (by decide +kernel) (by decide +kernel)
theorem gw_600 : Cond.methodLink RX10 99 yX3_say ∈ jq_G := jq_inG 600 (by decide +kernel) (by decide +kernel)
theorem gw_376 : Cond.methodLink RX4 3 objectInit ∈ jq_G := jq_inG 376 (by decide +kernel) (by decide +kernel)
theorem gw_377 : Cond.methodLink RX4 27 yJ7_fill_53178 ∈ jq_G := jq_inG 377 (by decide +kernel) (by decide +kernel)
theorem gw_427 : Cond.classLink RX4 10 RX4 ∈ jq_G := jq_inG 427 (by decide +kernel) (by decide +kernel)
theorem gw_210 : Cond.instantiable RX4 10 ∈ jq_G := jq_inG 210 (by decide +kernel) (by decide +kernel)
theorem gw_375 : Cond.code yX4_init cX4_init 3 none ∈ jq_G := jq_inG 375 (by decide +kernel) (by decide +kernel)
theorem gw_374 : Cond.instanceMethod yX4_init ∈ jq_G := jq_inG 374 (by decide +kernel) (by decide +kernel)
theorem gw_428 : Cond.methodLink RX4 33 yX4_init ∈ jq_G := jq_inG 428 (by decide +kernel) (by decide +kernel)
theorem gw_367 : Cond.methodLink RX3 3 objectInit ∈ jq_G := jq_inG 367 (by decide +kernel) (by decide +kernel)
theorem gw_368 : Cond.classLink RX3 15 RX4 ∈ jq_G := jq_inG 368 (by decide +kernel) (by decide +kernel)
theorem gw_369 : Cond.arrayOver (.object "WayGuesses$Learnt") ∈ jq_N := jq_inN 369 (by decide +kernel) (by decide +kernel)
theorem gw_443 : Cond.fieldLink RX3 17 "WayGuesses$Guesser" "kept" "[LWayGuesses$Learnt;" ∈ jq_G := jq_inG 443 (by decide +kernel) (by decide +kernel)
theorem gw_460 : Cond.fieldLink RX3 21 "WayGuesses$Guesser" "tables" "I" ∈ jq_G := jq_inG 460 (by decide +kernel) (by decide +kernel)
theorem gw_461 : Cond.fieldLink RX3 25 "WayGuesses$Guesser" "width" "I" ∈ jq_G := jq_inG 461 (by decide +kernel) (by decide +kernel)
theorem gw_370 : Cond.methodLink RX3 28 yJ7_fill_53178 ∈ jq_G := jq_inG 370 (by decide +kernel) (by decide +kernel)
theorem gw_373 : Cond.methodLinkNest RX3 34 yX4_init RX10 ∈ jq_N := jq_inN 373 (by decide +kernel) (by decide +kernel)
theorem gw_380 : Cond.fieldLinkNest RX3 41 "WayGuesses$Learnt" "cells" "[I" "WayGuesses" ∈ jq_N := jq_inN 380 (by decide +kernel) (by decide +kernel)
theorem gw_426 : Cond.code yX4_twin cX4_twin 1 (some (.object "WayGuesses$Learnt")) ∈ jq_G := jq_inG 426 (by decide +kernel) (by decide +kernel)
theorem gw_425 : Cond.instanceMethod yX4_twin ∈ jq_G := jq_inG 425 (by decide +kernel) (by decide +kernel)
theorem gs_18 : Cond.selects RX4 yX4_twin yX4_twin ∈ jq_G := jq_inS 18 (by decide +kernel) (by decide +kernel)
theorem gw_423 : Cond.methodLinkNest RX3 44 yX4_twin RX10 ∈ jq_N := jq_inN 423 (by decide +kernel) (by decide +kernel)
theorem gw_366 : Cond.code yX3_init cX3_init 5 none ∈ jq_G := jq_inG 366 (by decide +kernel) (by decide +kernel)
theorem gw_365 : Cond.instanceMethod yX3_init ∈ jq_G := jq_inG 365 (by decide +kernel) (by decide +kernel)
theorem gw_364 : Cond.methodLink RX1 1 yX3_init ∈ jq_G := jq_inG 364 (by decide +kernel) (by decide +kernel)
theorem gw_436 : Cond.methodLinkNest RX1 7 yX10_lowBits RX10 ∈ jq_N := jq_inN 436 (by decide +kernel) (by decide +kernel)
theorem gw_496 : Cond.methodLink RX8 3 yX3_init ∈ jq_G := jq_inG 496 (by decide +kernel) (by decide +kernel)
theorem gw_515 : Cond.methodLink RX9 1 yX3_init ∈ jq_G := jq_inG 515 (by decide +kernel) (by decide +kernel)
theorem gw_516 : Cond.methodLinkNest RX9 7 yX10_lowBits RX10 ∈ jq_N := jq_inN 516 (by decide +kernel) (by decide +kernel)
theorem gw_445 : Cond.fieldLink RX5 15 "WayGuesses$Loops" "first" "LWayGuesses$Learnt;" ∈ jq_G := jq_inG 445 (by decide +kernel) (by decide +kernel)
theorem gw_446 : Cond.sameField "WayGuesses$Loops" "WayGuesses$Guesser" "first" "LWayGuesses$Learnt;" ∈ jq_G := jq_inG 446 (by decide +kernel) (by decide +kernel)
theorem gw_537 : Cond.methodLinkNest RX5 28 yX4_take RX10 ∈ jq_N := jq_inN 537 (by decide +kernel) (by decide +kernel)
theorem gw_536 : Cond.methodLink RX5 5 yX3_init ∈ jq_G := jq_inG 536 (by decide +kernel) (by decide +kernel)
theorem gw_554 : Cond.methodLink RX0 1 yX3_init ∈ jq_G := jq_inG 554 (by decide +kernel) (by decide +kernel)
theorem gw_555 : Cond.methodLinkNest RX0 20 yX10_lowBits RX10 ∈ jq_N := jq_inN 555 (by decide +kernel) (by decide +kernel)
theorem gw_581 : Cond.methodLink RX2 3 yX3_init ∈ jq_G := jq_inG 581 (by decide +kernel) (by decide +kernel)
theorem gw_359 : Cond.classLink RX10 191 RX1 ∈ jq_G := jq_inG 359 (by decide +kernel) (by decide +kernel)
theorem gw_360 : Cond.instantiable RX1 11 ∈ jq_G := jq_inG 360 (by decide +kernel) (by decide +kernel)
theorem gw_363 : Cond.code yX1_init cX1_init 5 none ∈ jq_G := jq_inG 363 (by decide +kernel) (by decide +kernel)
theorem gw_362 : Cond.instanceMethod yX1_init ∈ jq_G := jq_inG 362 (by decide +kernel) (by decide +kernel)
theorem gw_361 : Cond.methodLinkNest RX10 193 yX1_init RX10 ∈ jq_N := jq_inN 361 (by decide +kernel) (by decide +kernel)
theorem gw_492 : Cond.classLink RX10 196 RX8 ∈ jq_G := jq_inG 492 (by decide +kernel) (by decide +kernel)
theorem gw_232 : Cond.instantiable RX8 9 ∈ jq_G := jq_inG 232 (by decide +kernel) (by decide +kernel)
theorem gw_495 : Cond.code yX8_init cX8_init 3 none ∈ jq_G := jq_inG 495 (by decide +kernel) (by decide +kernel)
theorem gw_494 : Cond.instanceMethod yX8_init ∈ jq_G := jq_inG 494 (by decide +kernel) (by decide +kernel)
theorem gw_493 : Cond.methodLinkNest RX10 198 yX8_init RX10 ∈ jq_N := jq_inN 493 (by decide +kernel) (by decide +kernel)
theorem gw_511 : Cond.classLink RX10 200 RX9 ∈ jq_G := jq_inG 511 (by decide +kernel) (by decide +kernel)
theorem gw_244 : Cond.instantiable RX9 9 ∈ jq_G := jq_inG 244 (by decide +kernel) (by decide +kernel)
theorem gw_514 : Cond.code yX9_init cX9_init 4 none ∈ jq_G := jq_inG 514 (by decide +kernel) (by decide +kernel)
theorem gw_513 : Cond.instanceMethod yX9_init ∈ jq_G := jq_inG 513 (by decide +kernel) (by decide +kernel)
theorem gw_512 : Cond.methodLinkNest RX10 202 yX9_init RX10 ∈ jq_N := jq_inN 512 (by decide +kernel) (by decide +kernel)
theorem gw_531 : Cond.classLink RX10 205 RX5 ∈ jq_G := jq_inG 531 (by decide +kernel) (by decide +kernel)
theorem gw_532 : Cond.instantiable RX5 8 ∈ jq_G := jq_inG 532 (by decide +kernel) (by decide +kernel)
theorem gw_535 : Cond.code yX5_init cX5_init 3 none ∈ jq_G := jq_inG 535 (by decide +kernel) (by decide +kernel)
theorem gw_534 : Cond.instanceMethod yX5_init ∈ jq_G := jq_inG 534 (by decide +kernel) (by decide +kernel)
theorem gw_533 : Cond.methodLinkNest RX10 207 yX5_init RX10 ∈ jq_N := jq_inN 533 (by decide +kernel) (by decide +kernel)
theorem gw_549 : Cond.classLink RX10 209 RX0 ∈ jq_G := jq_inG 549 (by decide +kernel) (by decide +kernel)
theorem gw_550 : Cond.instantiable RX0 11 ∈ jq_G := jq_inG 550 (by decide +kernel) (by decide +kernel)
theorem gw_553 : Cond.code yX0_init cX0_init 5 none ∈ jq_G := jq_inG 553 (by decide +kernel) (by decide +kernel)
theorem gw_552 : Cond.instanceMethod yX0_init ∈ jq_G := jq_inG 552 (by decide +kernel) (by decide +kernel)
theorem gw_551 : Cond.methodLinkNest RX10 211 yX0_init RX10 ∈ jq_N := jq_inN 551 (by decide +kernel) (by decide +kernel)
theorem gw_576 : Cond.classLink RX10 214 RX2 ∈ jq_G := jq_inG 576 (by decide +kernel) (by decide +kernel)
theorem gw_577 : Cond.instantiable RX2 9 ∈ jq_G := jq_inG 577 (by decide +kernel) (by decide +kernel)
theorem gw_580 : Cond.code yX2_init cX2_init 3 none ∈ jq_G := jq_inG 580 (by decide +kernel) (by decide +kernel)
theorem gw_579 : Cond.instanceMethod yX2_init ∈ jq_G := jq_inG 579 (by decide +kernel) (by decide +kernel)
theorem gw_578 : Cond.methodLinkNest RX10 216 yX2_init RX10 ∈ jq_N := jq_inN 578 (by decide +kernel) (by decide +kernel)
theorem gw_354 : Cond.code yX10_fits cX10_fits 4 (some .boolean) ∈ jq_G := jq_inG 354 (by decide +kernel) (by decide +kernel)
theorem gw_353 : Cond.static yX10_fits ∈ jq_G := jq_inG 353 (by decide +kernel) (by decide +kernel)
theorem gw_352 : Cond.methodLink RX10 88 yX10_fits ∈ jq_G := jq_inG 352 (by decide +kernel) (by decide +kernel)
theorem gw_358 : Cond.code yX10_made cX10_made 5 (some (.object "WayGuesses$Guesser")) ∈ jq_G := jq_inG 358 (by decide +kernel) (by decide +kernel)
theorem gw_357 : Cond.instanceMethod yX10_made ∈ jq_G := jq_inG 357 (by decide +kernel) (by decide +kernel)
theorem gs_17 : Cond.selects RX10 yX10_made yX10_made ∈ jq_G := jq_inS 17 (by decide +kernel) (by decide +kernel)
theorem gw_355 : Cond.methodLink RX10 95 yX10_made ∈ jq_G := jq_inG 355 (by decide +kernel) (by decide +kernel)
theorem gw_1023 : Cond.castable RX0 "WayGuesses$Guesser" ∈ jq_N := jq_inN 1023 (by decide +kernel) (by decide +kernel)
theorem gw_1024 : Cond.castable RX1 "WayGuesses$Guesser" ∈ jq_N := jq_inN 1024 (by decide +kernel) (by decide +kernel)
theorem gw_1025 : Cond.castable RX2 "WayGuesses$Guesser" ∈ jq_N := jq_inN 1025 (by decide +kernel) (by decide +kernel)
theorem gw_1026 : Cond.castable RX5 "WayGuesses$Guesser" ∈ jq_N := jq_inN 1026 (by decide +kernel) (by decide +kernel)
theorem gw_1027 : Cond.castable RX8 "WayGuesses$Guesser" ∈ jq_N := jq_inN 1027 (by decide +kernel) (by decide +kernel)
theorem gw_1028 : Cond.castable RX9 "WayGuesses$Guesser" ∈ jq_N := jq_inN 1028 (by decide +kernel) (by decide +kernel)
theorem gw_442 : Cond.fieldLink RX10 106 "WayGuesses$Guesser" "hints" "[I" ∈ jq_G := jq_inG 442 (by decide +kernel) (by decide +kernel)
theorem gw_659 : Cond.methodLinkNest RX3 85 yX10_within RX10 ∈ jq_N := jq_inN 659 (by decide +kernel) (by decide +kernel)
theorem gw_648 : Cond.instanceMethod yX3_look ∈ jq_G := jq_inG 648 (by decide +kernel) (by decide +kernel)
theorem gw_658 : Cond.code yX3_look cX3_look 3 (some .int) ∈ jq_G := jq_inG 658 (by decide +kernel) (by decide +kernel)
theorem gw_650 : Cond.selects RX0 yX3_look yX3_look ∈ jq_G := jq_inG 650 (by decide +kernel) (by decide +kernel)
theorem gw_647 : Cond.methodLink RX10 140 yX3_look ∈ jq_G := jq_inG 647 (by decide +kernel) (by decide +kernel)
theorem gw_649 : Cond.sameMethod "WayGuesses$Guesser" "WayGuesses$Guesser" "look" "(II)I" ∈ jq_G := jq_inG 649 (by decide +kernel) (by decide +kernel)
theorem gw_651 : Cond.selects RX1 yX3_look yX3_look ∈ jq_G := jq_inG 651 (by decide +kernel) (by decide +kernel)
theorem gw_654 : Cond.code yX2_look cX2_look 3 (some .int) ∈ jq_G := jq_inG 654 (by decide +kernel) (by decide +kernel)
theorem gw_653 : Cond.instanceMethod yX2_look ∈ jq_G := jq_inG 653 (by decide +kernel) (by decide +kernel)
theorem gw_652 : Cond.selects RX2 yX3_look yX2_look ∈ jq_G := jq_inG 652 (by decide +kernel) (by decide +kernel)
theorem gw_655 : Cond.selects RX5 yX3_look yX3_look ∈ jq_G := jq_inG 655 (by decide +kernel) (by decide +kernel)
theorem gw_656 : Cond.selects RX8 yX3_look yX3_look ∈ jq_G := jq_inG 656 (by decide +kernel) (by decide +kernel)
theorem gw_657 : Cond.selects RX9 yX3_look yX3_look ∈ jq_G := jq_inG 657 (by decide +kernel) (by decide +kernel)
theorem gw_701 : Cond.methodLinkNest RX10 161 yX4_twin RX10 ∈ jq_N := jq_inN 701 (by decide +kernel) (by decide +kernel)
theorem gw_387 : Cond.fieldLinkNest RX10 121 "WayGuesses$Learnt" "missedAt" "[I" "WayGuesses" ∈ jq_N := jq_inN 387 (by decide +kernel) (by decide +kernel)
theorem gw_616 : Cond.code yX7_count cX7_count 3 (some .int) ∈ jq_G := jq_inG 616 (by decide +kernel) (by decide +kernel)
theorem gw_615 : Cond.instanceMethod yX7_count ∈ jq_G := jq_inG 615 (by decide +kernel) (by decide +kernel)
theorem gs_21 : Cond.selects RX7 yX7_count yX7_count ∈ jq_G := jq_inS 21 (by decide +kernel) (by decide +kernel)
theorem gw_733 : Cond.methodLinkNest RX10 179 yX7_count RX10 ∈ jq_N := jq_inN 733 (by decide +kernel) (by decide +kernel)
theorem gw_31 : Cond.fieldLinkNest RX10 40 "WayGuesses$Machine" "kinds" "[I" "WayGuesses" ∈ jq_N := jq_inN 31 (by decide +kernel) (by decide +kernel)
theorem gw_130 : Cond.code yX6_write cX6_write 6 none ∈ jq_G := jq_inG 130 (by decide +kernel) (by decide +kernel)
theorem gw_129 : Cond.instanceMethod yX6_write ∈ jq_G := jq_inG 129 (by decide +kernel) (by decide +kernel)
theorem gs_0 : Cond.selects RX6 yX6_write yX6_write ∈ jq_G := jq_inS 0 (by decide +kernel) (by decide +kernel)
theorem gw_127 : Cond.methodLinkNest RX10 44 yX6_write RX10 ∈ jq_N := jq_inN 127 (by decide +kernel) (by decide +kernel)
theorem gw_126 : Cond.code yX10_isRegister cX10_isRegister 1 (some .boolean) ∈ jq_G := jq_inG 126 (by decide +kernel) (by decide +kernel)
theorem gw_125 : Cond.static yX10_isRegister ∈ jq_G := jq_inG 125 (by decide +kernel) (by decide +kernel)
theorem gw_124 : Cond.methodLink RX10 37 yX10_isRegister ∈ jq_G := jq_inG 124 (by decide +kernel) (by decide +kernel)
theorem gw_401 : Cond.fieldLinkNest RX10 134 "WayGuesses$Learnt" "pairCount" "I" "WayGuesses" ∈ jq_N := jq_inN 401 (by decide +kernel) (by decide +kernel)
theorem gw_389 : Cond.fieldLinkNest RX10 137 "WayGuesses$Learnt" "pairs" "[I" "WayGuesses" ∈ jq_N := jq_inN 389 (by decide +kernel) (by decide +kernel)
theorem gw_613 : Cond.methodLink RX7 37 yX7_count ∈ jq_G := jq_inG 613 (by decide +kernel) (by decide +kernel)
theorem gw_612 : Cond.code yX7_usualWay cX7_usualWay 4 (some .int) ∈ jq_G := jq_inG 612 (by decide +kernel) (by decide +kernel)
theorem gw_611 : Cond.instanceMethod yX7_usualWay ∈ jq_G := jq_inG 611 (by decide +kernel) (by decide +kernel)
theorem gs_20 : Cond.selects RX7 yX7_usualWay yX7_usualWay ∈ jq_G := jq_inS 20 (by decide +kernel) (by decide +kernel)
theorem gw_609 : Cond.methodLinkNest RX10 109 yX7_usualWay RX10 ∈ jq_N := jq_inN 609 (by decide +kernel) (by decide +kernel)
theorem gw_37 : Cond.fieldLinkNest RX10 48 "WayGuesses$Machine" "registers" "[I" "WayGuesses" ∈ jq_N := jq_inN 37 (by decide +kernel) (by decide +kernel)
theorem gw_40 : Cond.fieldLink RX6 30 "WayGuesses$Machine" "standing" "I" ∈ jq_G := jq_inG 40 (by decide +kernel) (by decide +kernel)
theorem gw_42 : Cond.fieldLink RX6 34 "WayGuesses$Machine" "steps" "I" ∈ jq_G := jq_inG 42 (by decide +kernel) (by decide +kernel)
theorem gw_168 : Cond.code yX6_holds cX6_holds 3 (some .boolean) ∈ jq_G := jq_inG 168 (by decide +kernel) (by decide +kernel)
theorem gw_167 : Cond.static yX6_holds ∈ jq_G := jq_inG 167 (by decide +kernel) (by decide +kernel)
theorem gw_166 : Cond.methodLink RX6 41 yX6_holds ∈ jq_G := jq_inG 166 (by decide +kernel) (by decide +kernel)
theorem gw_165 : Cond.code yX6_reckon cX6_reckon 6 none ∈ jq_G := jq_inG 165 (by decide +kernel) (by decide +kernel)
theorem gw_164 : Cond.instanceMethod yX6_reckon ∈ jq_G := jq_inG 164 (by decide +kernel) (by decide +kernel)
theorem gs_2 : Cond.selects RX6 yX6_reckon yX6_reckon ∈ jq_G := jq_inS 2 (by decide +kernel) (by decide +kernel)
theorem gw_162 : Cond.methodLink RX6 37 yX6_reckon ∈ jq_G := jq_inG 162 (by decide +kernel) (by decide +kernel)
theorem gw_41 : Cond.fieldLinkNest RX10 57 "WayGuesses$Machine" "standing" "I" "WayGuesses" ∈ jq_N := jq_inN 41 (by decide +kernel) (by decide +kernel)
theorem gw_161 : Cond.code yX6_step cX6_step 4 (some .int) ∈ jq_G := jq_inG 161 (by decide +kernel) (by decide +kernel)
theorem gw_160 : Cond.instanceMethod yX6_step ∈ jq_G := jq_inG 160 (by decide +kernel) (by decide +kernel)
theorem gs_1 : Cond.selects RX6 yX6_step yX6_step ∈ jq_G := jq_inS 1 (by decide +kernel) (by decide +kernel)
theorem gw_158 : Cond.methodLinkNest RX10 61 yX6_step RX10 ∈ jq_N := jq_inN 158 (by decide +kernel) (by decide +kernel)
theorem gw_78 : Cond.fieldLinkNest RX10 176 "WayGuesses$Row" "unlike" "I" "WayGuesses" ∈ jq_N := jq_inN 78 (by decide +kernel) (by decide +kernel)
theorem gw_43 : Cond.fieldLinkNest RX10 182 "WayGuesses$Machine" "steps" "I" "WayGuesses" ∈ jq_N := jq_inN 43 (by decide +kernel) (by decide +kernel)
theorem cf_X11 : jq_CF 10 RX11 TX11 25 tyX11 := ⟨rfl, by decide +kernel, tyX11_ok, nmX11⟩
theorem rc_X11 : jq_RC 10 RX11 := ⟨_, _, rfl⟩
theorem cf_X6 : jq_CF 5 RX6 TX6 8 tyX6 := ⟨rfl, by decide +kernel, tyX6_ok, nmX6⟩
theorem rc_X6 : jq_RC 5 RX6 := ⟨_, _, rfl⟩
theorem cf_X7 : jq_CF 6 RX7 TX7 8 tyX7 := ⟨rfl, by decide +kernel, tyX7_ok, nmX7⟩
theorem rc_X7 : jq_RC 6 RX7 := ⟨_, _, rfl⟩
theorem cf_X10 : jq_CF 9 RX10 TX10 5 tyX10 := ⟨rfl, by decide +kernel, tyX10_ok, nmX10⟩
theorem rc_X10 : jq_RC 9 RX10 := ⟨_, _, rfl⟩
theorem cf_X0 : jq_CF 0 RX0 TX0 11 tyX0 := ⟨rfl, by decide +kernel, tyX0_ok, nmX0⟩
theorem rc_X0 : jq_RC 0 RX0 := ⟨_, _, rfl⟩
theorem cf_X1 : jq_CF 1 RX1 TX1 11 tyX1 := ⟨rfl, by decide +kernel, tyX1_ok, nmX1⟩
theorem rc_X1 : jq_RC 1 RX1 := ⟨_, _, rfl⟩
theorem cf_X2 : jq_CF 2 RX2 TX2 9 tyX2 := ⟨rfl, by decide +kernel, tyX2_ok, nmX2⟩
theorem rc_X2 : jq_RC 2 RX2 := ⟨_, _, rfl⟩
theorem cf_X5 : jq_CF 4 RX5 TX5 8 tyX5 := ⟨rfl, by decide +kernel, tyX5_ok, nmX5⟩
theorem rc_X5 : jq_RC 4 RX5 := ⟨_, _, rfl⟩
theorem cf_X8 : jq_CF 7 RX8 TX8 9 tyX8 := ⟨rfl, by decide +kernel, tyX8_ok, nmX8⟩
theorem rc_X8 : jq_RC 7 RX8 := ⟨_, _, rfl⟩
theorem cf_X9 : jq_CF 8 RX9 TX9 9 tyX9 := ⟨rfl, by decide +kernel, tyX9_ok, nmX9⟩
theorem rc_X9 : jq_RC 8 RX9 := ⟨_, _, rfl⟩
theorem cf_X4 : jq_CF 3 RX4 TX4 10 tyX4 := ⟨rfl, by decide +kernel, tyX4_ok, nmX4⟩
theorem rc_X4 : jq_RC 3 RX4 := ⟨_, _, rfl⟩
theorem mf_X11_in : jq_MF yX11_in cX11_in 3 (some .boolean) 3 := ⟨gw_843, gw_4, by decide +kernel, by decide +kernel, by decide +kernel⟩
theorem mf_X11_low : jq_MF yX11_low cX11_low 2 (some .int) 2 := ⟨gw_894, gw_4, by decide +kernel, by decide +kernel, by decide +kernel⟩
theorem mf_X11_counter : jq_MF yX11_counter cX11_counter 6 (some .int) 3 := ⟨gw_891, gw_4, by decide +kernel, by decide +kernel, by decide +kernel⟩
theorem mf_X11_sum : jq_MF yX11_sum cX11_sum 7 (some .int) 2 := ⟨gw_902, gw_4, by decide +kernel, by decide +kernel, by decide +kernel⟩
theorem mf_X11_turn : jq_MF yX11_turn cX11_turn 4 none 2 := ⟨gw_906, gw_4, by decide +kernel, by decide +kernel, by decide +kernel⟩
theorem mf_X11_weigh : jq_MF yX11_weigh cX11_weigh 10 none 3 := ⟨gw_910, gw_4, by decide +kernel, by decide +kernel, by decide +kernel⟩
theorem mf_X11_loop : jq_MF yX11_loop cX11_loop 3 none 2 := ⟨gw_914, gw_4, by decide +kernel, by decide +kernel, by decide +kernel⟩
theorem mf_X11_own : jq_MF yX11_own cX11_own 8 (some .int) 4 := ⟨gw_898, gw_4, by decide +kernel, by decide +kernel, by decide +kernel⟩
theorem mf_X11_clashes1 : jq_MF yX11_clashes1 cX11_clashes1 3 (some .boolean) 1 := ⟨gw_883, gw_4, by decide +kernel, by decide +kernel, by decide +kernel⟩
theorem mf_X11_clash : jq_MF yX11_clash cX11_clash 8 none 2 := ⟨gw_887, gw_4, by decide +kernel, by decide +kernel, by decide +kernel⟩
theorem mf_X11_missesOf : jq_MF yX11_missesOf cX11_missesOf 4 (some .int) 1 := ⟨gw_962, gw_4, by decide +kernel, by decide +kernel, by decide +kernel⟩
theorem mf_X11_asks : jq_MF yX11_asks cX11_asks 10 none 3 := ⟨gw_879, gw_4, by decide +kernel, by decide +kernel, by decide +kernel⟩
theorem mf_X11_begin : jq_MF yX11_begin cX11_begin 4 none 1 := ⟨gw_938, gw_4, by decide +kernel, by decide +kernel, by decide +kernel⟩
theorem mf_X11_isGuesser : jq_MF yX11_isGuesser cX11_isGuesser 2 (some .boolean) 1 := ⟨gw_931, gw_4, by decide +kernel, by decide +kernel, by decide +kernel⟩
theorem mf_X11_countAll : jq_MF yX11_countAll cX11_countAll 8 none 2 := ⟨gw_1002, gw_4, by decide +kernel, by decide +kernel, by decide +kernel⟩
theorem mf_X11_isPlace : jq_MF yX11_isPlace cX11_isPlace 1 (some .boolean) 1 := ⟨gw_840, gw_4, by decide +kernel, by decide +kernel, by decide +kernel⟩
theorem mf_X11_comes : jq_MF yX11_comes cX11_comes 4 none 2 := ⟨gw_875, gw_4, by decide +kernel, by decide +kernel, by decide +kernel⟩
theorem mf_X11_fits : jq_MF yX11_fits cX11_fits 4 (some .boolean) 4 := ⟨gw_934, gw_4, by decide +kernel, by decide +kernel, by decide +kernel⟩
theorem mf_X11_times : jq_MF yX11_times cX11_times 5 (some .int) 2 := ⟨gw_954, gw_4, by decide +kernel, by decide +kernel, by decide +kernel⟩
theorem mf_X11_step : jq_MF yX11_step cX11_step 7 none 0 := ⟨gw_871, gw_4, by decide +kernel, by decide +kernel, by decide +kernel⟩
theorem mf_X6_init : jq_MF yX6_init cX6_init 1 none 0 := ⟨gw_28, gw_2, by decide +kernel, by decide +kernel, by decide +kernel⟩
theorem mf_X7_init : jq_MF yX7_init cX7_init 1 none 0 := ⟨gw_66, gw_3, by decide +kernel, by decide +kernel, by decide +kernel⟩
theorem mf_X10_within : jq_MF yX10_within cX10_within 3 (some .boolean) 3 := ⟨gw_123, gw_1, by decide +kernel, by decide +kernel, by decide +kernel⟩
theorem mf_X10_isIn : jq_MF yX10_isIn cX10_isIn 2 (some .boolean) 2 := ⟨gw_684, gw_1, by decide +kernel, by decide +kernel, by decide +kernel⟩
theorem mf_X0_asks : jq_MF yX0_asks cX0_asks 1 (some .int) 0 := ⟨gw_690, gw_14, by decide +kernel, by decide +kernel, by decide +kernel⟩
theorem mf_X3_asks : jq_MF yX3_asks cX3_asks 1 (some .int) 0 := ⟨gw_696, gw_6, by decide +kernel, by decide +kernel, by decide +kernel⟩
theorem mf_X4_take : jq_MF yX4_take cX4_take 2 none 1 := ⟨gw_432, gw_9, by decide +kernel, by decide +kernel, by decide +kernel⟩
theorem mf_X0_slotOf : jq_MF yX0_slotOf cX0_slotOf 2 (some .int) 1 := ⟨gw_206, gw_14, by decide +kernel, by decide +kernel, by decide +kernel⟩
theorem mf_X4_counterWay : jq_MF yX4_counterWay cX4_counterWay 2 (some .int) 1 := ⟨gw_211, gw_9, by decide +kernel, by decide +kernel, by decide +kernel⟩
theorem mf_X1_slotOf : jq_MF yX1_slotOf cX1_slotOf 3 (some .int) 1 := ⟨gw_218, gw_7, by decide +kernel, by decide +kernel, by decide +kernel⟩
theorem mf_X10_lowBits : jq_MF yX10_lowBits cX10_lowBits 1 (some .int) 1 := ⟨gw_236, gw_1, by decide +kernel, by decide +kernel, by decide +kernel⟩
theorem mf_X8_cellOf : jq_MF yX8_cellOf cX8_cellOf 4 (some .int) 2 := ⟨gw_233, gw_11, by decide +kernel, by decide +kernel, by decide +kernel⟩
theorem mf_X9_bitOf : jq_MF yX9_bitOf cX9_bitOf 2 (some .int) 1 := ⟨gw_253, gw_12, by decide +kernel, by decide +kernel, by decide +kernel⟩
theorem mf_X9_slotOf : jq_MF yX9_slotOf cX9_slotOf 2 (some .int) 1 := ⟨gw_249, gw_12, by decide +kernel, by decide +kernel, by decide +kernel⟩
theorem mf_X9_sumAt : jq_MF yX9_sumAt cX9_sumAt 5 (some .int) 1 := ⟨gw_245, gw_12, by decide +kernel, by decide +kernel, by decide +kernel⟩
theorem mf_X0_ownWay : jq_MF yX0_ownWay cX0_ownWay 2 (some .int) 1 := ⟨gw_202, gw_14, by decide +kernel, by decide +kernel, by decide +kernel⟩
theorem mf_X1_ownWay : jq_MF yX1_ownWay cX1_ownWay 2 (some .int) 1 := ⟨gw_214, gw_7, by decide +kernel, by decide +kernel, by decide +kernel⟩
theorem mf_X2_ownWay : jq_MF yX2_ownWay cX2_ownWay 2 (some .int) 1 := ⟨gw_222, gw_15, by decide +kernel, by decide +kernel, by decide +kernel⟩
theorem mf_X5_ownWay : jq_MF yX5_ownWay cX5_ownWay 4 (some .int) 1 := ⟨gw_225, gw_13, by decide +kernel, by decide +kernel, by decide +kernel⟩
theorem mf_X8_ownWay : jq_MF yX8_ownWay cX8_ownWay 4 (some .int) 1 := ⟨gw_228, gw_11, by decide +kernel, by decide +kernel, by decide +kernel⟩
theorem mf_X9_ownWay : jq_MF yX9_ownWay cX9_ownWay 2 (some .int) 1 := ⟨gw_240, gw_12, by decide +kernel, by decide +kernel, by decide +kernel⟩
theorem mf_X4_keepPair : jq_MF yX4_keepPair cX4_keepPair 3 none 1 := ⟨gw_286, gw_9, by decide +kernel, by decide +kernel, by decide +kernel⟩
theorem mf_X4_teachCounter : jq_MF yX4_teachCounter cX4_teachCounter 3 none 2 := ⟨gw_296, gw_9, by decide +kernel, by decide +kernel, by decide +kernel⟩
theorem mf_X0_learn : jq_MF yX0_learn cX0_learn 3 none 2 := ⟨gw_292, gw_14, by decide +kernel, by decide +kernel, by decide +kernel⟩
theorem mf_X1_learn : jq_MF yX1_learn cX1_learn 3 none 2 := ⟨gw_299, gw_7, by decide +kernel, by decide +kernel, by decide +kernel⟩
theorem mf_X2_learn : jq_MF yX2_learn cX2_learn 3 none 2 := ⟨gw_303, gw_15, by decide +kernel, by decide +kernel, by decide +kernel⟩
theorem mf_X5_learn : jq_MF yX5_learn cX5_learn 6 none 2 := ⟨gw_306, gw_13, by decide +kernel, by decide +kernel, by decide +kernel⟩
theorem mf_X8_learn : jq_MF yX8_learn cX8_learn 4 none 2 := ⟨gw_310, gw_11, by decide +kernel, by decide +kernel, by decide +kernel⟩
theorem mf_X9_learn : jq_MF yX9_learn cX9_learn 8 none 2 := ⟨gw_314, gw_12, by decide +kernel, by decide +kernel, by decide +kernel⟩
theorem mf_X4_addWay : jq_MF yX4_addWay cX4_addWay 3 none 2 := ⟨gw_323, gw_9, by decide +kernel, by decide +kernel, by decide +kernel⟩
theorem mf_X4_countAsked : jq_MF yX4_countAsked cX4_countAsked 3 none 2 := ⟨gw_257, gw_9, by decide +kernel, by decide +kernel, by decide +kernel⟩
theorem mf_X2_slotOf : jq_MF yX2_slotOf cX2_slotOf 2 (some .int) 1 := ⟨gw_265, gw_15, by decide +kernel, by decide +kernel, by decide +kernel⟩
theorem mf_X5_slotOf : jq_MF yX5_slotOf cX5_slotOf 2 (some .int) 1 := ⟨gw_268, gw_13, by decide +kernel, by decide +kernel, by decide +kernel⟩
theorem mf_X8_slotOf : jq_MF yX8_slotOf cX8_slotOf 2 (some .int) 1 := ⟨gw_271, gw_11, by decide +kernel, by decide +kernel, by decide +kernel⟩
theorem mf_X4_useSlot : jq_MF yX4_useSlot cX4_useSlot 4 none 2 := ⟨gw_276, gw_9, by decide +kernel, by decide +kernel, by decide +kernel⟩
theorem mf_X3_say : jq_MF yX3_say cX3_say 2 none 1 := ⟨gw_196, gw_6, by decide +kernel, by decide +kernel, by decide +kernel⟩
theorem mf_X3_meetBranch : jq_MF yX3_meetBranch cX3_meetBranch 4 none 2 := ⟨gw_186, gw_6, by decide +kernel, by decide +kernel, by decide +kernel⟩
theorem mf_X7_placeOf : jq_MF yX7_placeOf cX7_placeOf 2 (some .int) 1 := ⟨gw_339, gw_3, by decide +kernel, by decide +kernel, by decide +kernel⟩
theorem mf_X7_wayOf : jq_MF yX7_wayOf cX7_wayOf 2 (some .int) 1 := ⟨gw_343, gw_3, by decide +kernel, by decide +kernel, by decide +kernel⟩
theorem mf_X3_forget : jq_MF yX3_forget cX3_forget 1 none 0 := ⟨gw_673, gw_6, by decide +kernel, by decide +kernel, by decide +kernel⟩
theorem mf_X10_isGuesser : jq_MF yX10_isGuesser cX10_isGuesser 2 (some .boolean) 1 := ⟨gw_351, gw_1, by decide +kernel, by decide +kernel, by decide +kernel⟩
theorem mf_X10_groupOf : jq_MF yX10_groupOf cX10_groupOf 4 (some .int) 1 := ⟨gw_681, gw_1, by decide +kernel, by decide +kernel, by decide +kernel⟩
theorem mf_X7_tally : jq_MF yX7_tally cX7_tally 5 none 2 := ⟨gw_721, gw_3, by decide +kernel, by decide +kernel, by decide +kernel⟩
theorem mf_J7_fill_53178 : jq_MF yJ7_fill_53178 cJ7_fill_53178 4 none 2 := ⟨gw_372, gw_8, by decide +kernel, by decide +kernel, by decide +kernel⟩
theorem mf_X7_survey : jq_MF yX7_survey cX7_survey 7 none 2 := ⟨gw_714, gw_3, by decide +kernel, by decide +kernel, by decide +kernel⟩
theorem mf_X7_add : jq_MF yX7_add cX7_add 3 none 2 := ⟨gw_176, gw_3, by decide +kernel, by decide +kernel, by decide +kernel⟩
theorem mf_X10_isPlace : jq_MF yX10_isPlace cX10_isPlace 1 (some .boolean) 1 := ⟨gw_120, gw_1, by decide +kernel, by decide +kernel, by decide +kernel⟩
theorem mf_X10_isWay : jq_MF yX10_isWay cX10_isWay 1 (some .boolean) 1 := ⟨gw_331, gw_1, by decide +kernel, by decide +kernel, by decide +kernel⟩
theorem mf_X10_meet : jq_MF yX10_meet cX10_meet 4 none 2 := ⟨gw_172, gw_1, by decide +kernel, by decide +kernel, by decide +kernel⟩
theorem mf_X3_canClash : jq_MF yX3_canClash cX3_canClash 1 (some .boolean) 0 := ⟨gw_638, gw_6, by decide +kernel, by decide +kernel, by decide +kernel⟩
theorem mf_X10_isData : jq_MF yX10_isData cX10_isData 1 (some .boolean) 1 := ⟨gw_145, gw_1, by decide +kernel, by decide +kernel, by decide +kernel⟩
theorem mf_X7_clear : jq_MF yX7_clear cX7_clear 1 none 0 := ⟨gw_749, gw_3, by decide +kernel, by decide +kernel, by decide +kernel⟩
theorem mf_X4_init : jq_MF yX4_init cX4_init 3 none 2 := ⟨gw_375, gw_9, by decide +kernel, by decide +kernel, by decide +kernel⟩
theorem mf_X4_twin : jq_MF yX4_twin cX4_twin 1 (some (.object "WayGuesses$Learnt")) 0 := ⟨gw_426, gw_9, by decide +kernel, by decide +kernel, by decide +kernel⟩
theorem mf_X3_init : jq_MF yX3_init cX3_init 5 none 4 := ⟨gw_366, gw_6, by decide +kernel, by decide +kernel, by decide +kernel⟩
theorem mf_X1_init : jq_MF yX1_init cX1_init 5 none 4 := ⟨gw_363, gw_7, by decide +kernel, by decide +kernel, by decide +kernel⟩
theorem mf_X8_init : jq_MF yX8_init cX8_init 3 none 2 := ⟨gw_495, gw_11, by decide +kernel, by decide +kernel, by decide +kernel⟩
theorem mf_X9_init : jq_MF yX9_init cX9_init 4 none 3 := ⟨gw_514, gw_12, by decide +kernel, by decide +kernel, by decide +kernel⟩
theorem mf_X5_init : jq_MF yX5_init cX5_init 3 none 1 := ⟨gw_535, gw_13, by decide +kernel, by decide +kernel, by decide +kernel⟩
theorem mf_X0_init : jq_MF yX0_init cX0_init 5 none 4 := ⟨gw_553, gw_14, by decide +kernel, by decide +kernel, by decide +kernel⟩
theorem mf_X2_init : jq_MF yX2_init cX2_init 3 none 2 := ⟨gw_580, gw_15, by decide +kernel, by decide +kernel, by decide +kernel⟩
theorem mf_X10_fits : jq_MF yX10_fits cX10_fits 4 (some .boolean) 4 := ⟨gw_354, gw_1, by decide +kernel, by decide +kernel, by decide +kernel⟩
theorem mf_X10_made : jq_MF yX10_made cX10_made 5 (some (.object "WayGuesses$Guesser")) 4 := ⟨gw_358, gw_1, by decide +kernel, by decide +kernel, by decide +kernel⟩
theorem mf_X3_look : jq_MF yX3_look cX3_look 3 (some .int) 2 := ⟨gw_658, gw_6, by decide +kernel, by decide +kernel, by decide +kernel⟩
theorem mf_X2_look : jq_MF yX2_look cX2_look 3 (some .int) 2 := ⟨gw_654, gw_15, by decide +kernel, by decide +kernel, by decide +kernel⟩
theorem mf_X7_count : jq_MF yX7_count cX7_count 3 (some .int) 2 := ⟨gw_616, gw_3, by decide +kernel, by decide +kernel, by decide +kernel⟩
theorem mf_X6_write : jq_MF yX6_write cX6_write 6 none 5 := ⟨gw_130, gw_2, by decide +kernel, by decide +kernel, by decide +kernel⟩
theorem mf_X10_isRegister : jq_MF yX10_isRegister cX10_isRegister 1 (some .boolean) 1 := ⟨gw_126, gw_1, by decide +kernel, by decide +kernel, by decide +kernel⟩
theorem mf_X7_usualWay : jq_MF yX7_usualWay cX7_usualWay 4 (some .int) 1 := ⟨gw_612, gw_3, by decide +kernel, by decide +kernel, by decide +kernel⟩
theorem mf_X6_holds : jq_MF yX6_holds cX6_holds 3 (some .boolean) 3 := ⟨gw_168, gw_2, by decide +kernel, by decide +kernel, by decide +kernel⟩
theorem mf_X6_reckon : jq_MF yX6_reckon cX6_reckon 6 none 4 := ⟨gw_165, gw_2, by decide +kernel, by decide +kernel, by decide +kernel⟩
theorem mf_X6_step : jq_MF yX6_step cX6_step 4 (some .int) 0 := ⟨gw_161, gw_2, by decide +kernel, by decide +kernel, by decide +kernel⟩
theorem fs_X11_7 : jq_FS RX11 7 [10] 0 "WayGuessesModel" "[I" true := ⟨"WayGuessesModel", "kind", Or.inl gw_757, Or.inl rfl, fun ci hci => by obtain rfl := List.mem_singleton.mp hci; exact ⟨_, _, _, _, cf_X11, by decide, rfl⟩⟩
theorem fs_X11_13 : jq_FS RX11 13 [10] 1 "WayGuessesModel" "[I" true := ⟨"WayGuessesModel", "opR", Or.inl gw_758, Or.inl rfl, fun ci hci => by obtain rfl := List.mem_singleton.mp hci; exact ⟨_, _, _, _, cf_X11, by decide, rfl⟩⟩
theorem fs_X11_16 : jq_FS RX11 16 [10] 2 "WayGuessesModel" "[I" true := ⟨"WayGuessesModel", "opS", Or.inl gw_759, Or.inl rfl, fun ci hci => by obtain rfl := List.mem_singleton.mp hci; exact ⟨_, _, _, _, cf_X11, by decide, rfl⟩⟩
theorem fs_X11_19 : jq_FS RX11 19 [10] 3 "WayGuessesModel" "[I" true := ⟨"WayGuessesModel", "opV", Or.inl gw_760, Or.inl rfl, fun ci hci => by obtain rfl := List.mem_singleton.mp hci; exact ⟨_, _, _, _, cf_X11, by decide, rfl⟩⟩
theorem fs_X11_22 : jq_FS RX11 22 [10] 4 "WayGuessesModel" "[I" true := ⟨"WayGuessesModel", "register", Or.inl gw_761, Or.inl rfl, fun ci hci => by obtain rfl := List.mem_singleton.mp hci; exact ⟨_, _, _, _, cf_X11, by decide, rfl⟩⟩
theorem fs_X11_25 : jq_FS RX11 25 [10] 5 "WayGuessesModel" "[I" true := ⟨"WayGuessesModel", "data", Or.inl gw_762, Or.inl rfl, fun ci hci => by obtain rfl := List.mem_singleton.mp hci; exact ⟨_, _, _, _, cf_X11, by decide, rfl⟩⟩
theorem fs_X11_28 : jq_FS RX11 28 [10] 10 "WayGuessesModel" "[I" true := ⟨"WayGuessesModel", "rowPlace", Or.inl gw_767, Or.inl rfl, fun ci hci => by obtain rfl := List.mem_singleton.mp hci; exact ⟨_, _, _, _, cf_X11, by decide, rfl⟩⟩
theorem fs_X11_31 : jq_FS RX11 31 [10] 11 "WayGuessesModel" "[I" true := ⟨"WayGuessesModel", "rowWay", Or.inl gw_768, Or.inl rfl, fun ci hci => by obtain rfl := List.mem_singleton.mp hci; exact ⟨_, _, _, _, cf_X11, by decide, rfl⟩⟩
theorem fs_X11_34 : jq_FS RX11 34 [10] 13 "WayGuessesModel" "[I" true := ⟨"WayGuessesModel", "kindOf", Or.inl gw_770, Or.inl rfl, fun ci hci => by obtain rfl := List.mem_singleton.mp hci; exact ⟨_, _, _, _, cf_X11, by decide, rfl⟩⟩
theorem fs_X11_37 : jq_FS RX11 37 [10] 14 "WayGuessesModel" "[I" true := ⟨"WayGuessesModel", "a", Or.inl gw_771, Or.inl rfl, fun ci hci => by obtain rfl := List.mem_singleton.mp hci; exact ⟨_, _, _, _, cf_X11, by decide, rfl⟩⟩
theorem fs_X11_40 : jq_FS RX11 40 [10] 15 "WayGuessesModel" "[I" true := ⟨"WayGuessesModel", "b", Or.inl gw_772, Or.inl rfl, fun ci hci => by obtain rfl := List.mem_singleton.mp hci; exact ⟨_, _, _, _, cf_X11, by decide, rfl⟩⟩
theorem fs_X11_43 : jq_FS RX11 43 [10] 16 "WayGuessesModel" "[I" true := ⟨"WayGuessesModel", "c", Or.inl gw_773, Or.inl rfl, fun ci hci => by obtain rfl := List.mem_singleton.mp hci; exact ⟨_, _, _, _, cf_X11, by decide, rfl⟩⟩
theorem fs_X11_46 : jq_FS RX11 46 [10] 17 "WayGuessesModel" "[I" true := ⟨"WayGuessesModel", "hint", Or.inl gw_774, Or.inl rfl, fun ci hci => by obtain rfl := List.mem_singleton.mp hci; exact ⟨_, _, _, _, cf_X11, by decide, rfl⟩⟩
theorem fs_X11_49 : jq_FS RX11 49 [10] 18 "WayGuessesModel" "[I" true := ⟨"WayGuessesModel", "now", Or.inl gw_775, Or.inl rfl, fun ci hci => by obtain rfl := List.mem_singleton.mp hci; exact ⟨_, _, _, _, cf_X11, by decide, rfl⟩⟩
theorem fs_X11_52 : jq_FS RX11 52 [10] 19 "WayGuessesModel" "[I" true := ⟨"WayGuessesModel", "kept", Or.inl gw_776, Or.inl rfl, fun ci hci => by obtain rfl := List.mem_singleton.mp hci; exact ⟨_, _, _, _, cf_X11, by decide, rfl⟩⟩
theorem fs_X11_55 : jq_FS RX11 55 [10] 20 "WayGuessesModel" "[Z" true := ⟨"WayGuessesModel", "isKept", Or.inl gw_777, Or.inl rfl, fun ci hci => by obtain rfl := List.mem_singleton.mp hci; exact ⟨_, _, _, _, cf_X11, by decide, rfl⟩⟩
theorem fs_X11_59 : jq_FS RX11 59 [10] 21 "WayGuessesModel" "[I" true := ⟨"WayGuessesModel", "guessed", Or.inl gw_778, Or.inl rfl, fun ci hci => by obtain rfl := List.mem_singleton.mp hci; exact ⟨_, _, _, _, cf_X11, by decide, rfl⟩⟩
theorem fs_X11_62 : jq_FS RX11 62 [10] 22 "WayGuessesModel" "[I" true := ⟨"WayGuessesModel", "would", Or.inl gw_779, Or.inl rfl, fun ci hci => by obtain rfl := List.mem_singleton.mp hci; exact ⟨_, _, _, _, cf_X11, by decide, rfl⟩⟩
theorem fs_X11_66 : jq_FS RX11 66 [10] 23 "WayGuessesModel" "[I" true := ⟨"WayGuessesModel", "count", Or.inl gw_780, Or.inl rfl, fun ci hci => by obtain rfl := List.mem_singleton.mp hci; exact ⟨_, _, _, _, cf_X11, by decide, rfl⟩⟩
theorem fs_X11_69 : jq_FS RX11 69 [10] 24 "WayGuessesModel" "[I" true := ⟨"WayGuessesModel", "ownHistory", Or.inl gw_781, Or.inl rfl, fun ci hci => by obtain rfl := List.mem_singleton.mp hci; exact ⟨_, _, _, _, cf_X11, by decide, rfl⟩⟩
theorem fs_X11_94 : jq_FS RX11 94 [10] 12 "WayGuessesModel" "I" false := ⟨"WayGuessesModel", "guessers", Or.inl gw_769, Or.inl rfl, fun ci hci => by obtain rfl := List.mem_singleton.mp hci; exact ⟨_, _, _, _, cf_X11, by decide, rfl⟩⟩
theorem fs_X11_101 : jq_FS RX11 101 [10] 9 "WayGuessesModel" "I" false := ⟨"WayGuessesModel", "rows", Or.inl gw_766, Or.inl rfl, fun ci hci => by obtain rfl := List.mem_singleton.mp hci; exact ⟨_, _, _, _, cf_X11, by decide, rfl⟩⟩
theorem fs_X11_104 : jq_FS RX11 104 [10] 8 "WayGuessesModel" "I" false := ⟨"WayGuessesModel", "branches", Or.inl gw_765, Or.inl rfl, fun ci hci => by obtain rfl := List.mem_singleton.mp hci; exact ⟨_, _, _, _, cf_X11, by decide, rfl⟩⟩
theorem fs_X11_80 : jq_FS RX11 80 [10] 6 "WayGuessesModel" "I" false := ⟨"WayGuessesModel", "stands", Or.inl gw_763, Or.inl rfl, fun ci hci => by obtain rfl := List.mem_singleton.mp hci; exact ⟨_, _, _, _, cf_X11, by decide, rfl⟩⟩
theorem fs_X11_88 : jq_FS RX11 88 [10] 7 "WayGuessesModel" "I" false := ⟨"WayGuessesModel", "steps", Or.inl gw_764, Or.inl rfl, fun ci hci => by obtain rfl := List.mem_singleton.mp hci; exact ⟨_, _, _, _, cf_X11, by decide, rfl⟩⟩
theorem fs_X6_9 : jq_FS RX6 9 [5] 0 "WayGuesses$Machine" "[I" true := ⟨"WayGuesses$Machine", "kinds", Or.inl gw_30, Or.inl rfl, fun ci hci => by obtain rfl := List.mem_singleton.mp hci; exact ⟨_, _, _, _, cf_X6, by decide, rfl⟩⟩
theorem fs_X6_15 : jq_FS RX6 15 [5] 1 "WayGuesses$Machine" "[I" true := ⟨"WayGuesses$Machine", "firsts", Or.inl gw_32, Or.inl rfl, fun ci hci => by obtain rfl := List.mem_singleton.mp hci; exact ⟨_, _, _, _, cf_X6, by decide, rfl⟩⟩
theorem fs_X6_18 : jq_FS RX6 18 [5] 2 "WayGuesses$Machine" "[I" true := ⟨"WayGuesses$Machine", "seconds", Or.inl gw_33, Or.inl rfl, fun ci hci => by obtain rfl := List.mem_singleton.mp hci; exact ⟨_, _, _, _, cf_X6, by decide, rfl⟩⟩
theorem fs_X6_21 : jq_FS RX6 21 [5] 3 "WayGuesses$Machine" "[I" true := ⟨"WayGuesses$Machine", "numbers", Or.inl gw_34, Or.inl rfl, fun ci hci => by obtain rfl := List.mem_singleton.mp hci; exact ⟨_, _, _, _, cf_X6, by decide, rfl⟩⟩
theorem fs_X6_24 : jq_FS RX6 24 [5] 4 "WayGuesses$Machine" "[I" true := ⟨"WayGuesses$Machine", "registers", Or.inl gw_36, Or.inl rfl, fun ci hci => by obtain rfl := List.mem_singleton.mp hci; exact ⟨_, _, _, _, cf_X6, by decide, rfl⟩⟩
theorem fs_X6_27 : jq_FS RX6 27 [5] 5 "WayGuesses$Machine" "[I" true := ⟨"WayGuesses$Machine", "memory", Or.inl gw_38, Or.inl rfl, fun ci hci => by obtain rfl := List.mem_singleton.mp hci; exact ⟨_, _, _, _, cf_X6, by decide, rfl⟩⟩
theorem fs_X7_11 : jq_FS RX7 11 [6] 0 "WayGuesses$Row" "[I" true := ⟨"WayGuesses$Row", "branches", Or.inl gw_68, Or.inl rfl, fun ci hci => by obtain rfl := List.mem_singleton.mp hci; exact ⟨_, _, _, _, cf_X7, by decide, rfl⟩⟩
theorem fs_X7_15 : jq_FS RX7 15 [6] 1 "WayGuesses$Row" "[I" true := ⟨"WayGuesses$Row", "counts", Or.inl gw_69, Or.inl rfl, fun ci hci => by obtain rfl := List.mem_singleton.mp hci; exact ⟨_, _, _, _, cf_X7, by decide, rfl⟩⟩
theorem fs_X7_18 : jq_FS RX7 18 [6] 2 "WayGuesses$Row" "[I" true := ⟨"WayGuesses$Row", "tallies", Or.inl gw_70, Or.inl rfl, fun ci hci => by obtain rfl := List.mem_singleton.mp hci; exact ⟨_, _, _, _, cf_X7, by decide, rfl⟩⟩
theorem fs_X7_21 : jq_FS RX7 21 [6] 3 "WayGuesses$Row" "[I" true := ⟨"WayGuesses$Row", "keys", Or.inl gw_71, Or.inl rfl, fun ci hci => by obtain rfl := List.mem_singleton.mp hci; exact ⟨_, _, _, _, cf_X7, by decide, rfl⟩⟩
theorem fs_X7_24 : jq_FS RX7 24 [6] 4 "WayGuesses$Row" "[I" true := ⟨"WayGuesses$Row", "histories", Or.inl gw_72, Or.inl rfl, fun ci hci => by obtain rfl := List.mem_singleton.mp hci; exact ⟨_, _, _, _, cf_X7, by decide, rfl⟩⟩
theorem fs_X10_12 : jq_FS RX10 12 [9] 0 "WayGuesses" "LWayGuesses$Machine;" true := ⟨"WayGuesses", "machine", Or.inl gw_98, Or.inl rfl, fun ci hci => by obtain rfl := List.mem_singleton.mp hci; exact ⟨_, _, _, _, cf_X10, by decide, rfl⟩⟩
theorem fs_X10_19 : jq_FS RX10 19 [9] 1 "WayGuesses" "LWayGuesses$Row;" true := ⟨"WayGuesses", "row", Or.inl gw_99, Or.inl rfl, fun ci hci => by obtain rfl := List.mem_singleton.mp hci; exact ⟨_, _, _, _, cf_X10, by decide, rfl⟩⟩
theorem fs_X10_25 : jq_FS RX10 25 [9] 2 "WayGuesses" "[LWayGuesses$Guesser;" true := ⟨"WayGuesses", "guessers", Or.inl gw_100, Or.inl rfl, fun ci hci => by obtain rfl := List.mem_singleton.mp hci; exact ⟨_, _, _, _, cf_X10, by decide, rfl⟩⟩
theorem fs_X10_92 : jq_FS RX10 92 [9] 3 "WayGuesses" "I" false := ⟨"WayGuesses", "guesserCount", Or.inl gw_101, Or.inl rfl, fun ci hci => by obtain rfl := List.mem_singleton.mp hci; exact ⟨_, _, _, _, cf_X10, by decide, rfl⟩⟩
theorem fs_X0_16 : jq_FS RX0 16 [0] 9 "WayGuesses$Chooser" "I" true := ⟨"WayGuesses$Chooser", "asked", Or.inl gw_558, Or.inl rfl, fun ci hci => by obtain rfl := List.mem_singleton.mp hci; exact ⟨_, _, _, _, cf_X0, by decide, rfl⟩⟩
theorem fs_X4_21 : jq_FS RX4 21 [3] 0 "WayGuesses$Learnt" "[I" true := ⟨"WayGuesses$Learnt", "cells", Or.inl gw_379, Or.inl rfl, fun ci hci => by obtain rfl := List.mem_singleton.mp hci; exact ⟨_, _, _, _, cf_X4, by decide, rfl⟩⟩
theorem fs_X4_24 : jq_FS RX4 24 [3] 1 "WayGuesses$Learnt" "[I" true := ⟨"WayGuesses$Learnt", "lastPlaces", Or.inl gw_382, Or.inl rfl, fun ci hci => by obtain rfl := List.mem_singleton.mp hci; exact ⟨_, _, _, _, cf_X4, by decide, rfl⟩⟩
theorem fs_X4_9 : jq_FS RX4 9 [3] 2 "WayGuesses$Learnt" "[I" true := ⟨"WayGuesses$Learnt", "ownHistories", Or.inl gw_384, Or.inl rfl, fun ci hci => by obtain rfl := List.mem_singleton.mp hci; exact ⟨_, _, _, _, cf_X4, by decide, rfl⟩⟩
theorem fs_X4_15 : jq_FS RX4 15 [3] 3 "WayGuesses$Learnt" "[I" true := ⟨"WayGuesses$Learnt", "missedAt", Or.inl gw_386, Or.inl rfl, fun ci hci => by obtain rfl := List.mem_singleton.mp hci; exact ⟨_, _, _, _, cf_X4, by decide, rfl⟩⟩
theorem fs_X4_18 : jq_FS RX4 18 [3] 4 "WayGuesses$Learnt" "[I" true := ⟨"WayGuesses$Learnt", "pairs", Or.inl gw_388, Or.inl rfl, fun ci hci => by obtain rfl := List.mem_singleton.mp hci; exact ⟨_, _, _, _, cf_X4, by decide, rfl⟩⟩
theorem fs_X4_48 : jq_FS RX4 48 [3] 5 "WayGuesses$Learnt" "I" false := ⟨"WayGuesses$Learnt", "history", Or.inl gw_393, Or.inl rfl, fun ci hci => by obtain rfl := List.mem_singleton.mp hci; exact ⟨_, _, _, _, cf_X4, by decide, rfl⟩⟩
theorem fs_X4_52 : jq_FS RX4 52 [3] 6 "WayGuesses$Learnt" "I" false := ⟨"WayGuesses$Learnt", "asked", Or.inl gw_394, Or.inl rfl, fun ci hci => by obtain rfl := List.mem_singleton.mp hci; exact ⟨_, _, _, _, cf_X4, by decide, rfl⟩⟩
theorem fs_X4_55 : jq_FS RX4 55 [3] 7 "WayGuesses$Learnt" "I" false := ⟨"WayGuesses$Learnt", "missed", Or.inl gw_396, Or.inl rfl, fun ci hci => by obtain rfl := List.mem_singleton.mp hci; exact ⟨_, _, _, _, cf_X4, by decide, rfl⟩⟩
theorem fs_X4_58 : jq_FS RX4 58 [3] 8 "WayGuesses$Learnt" "I" false := ⟨"WayGuesses$Learnt", "clashed", Or.inl gw_398, Or.inl rfl, fun ci hci => by obtain rfl := List.mem_singleton.mp hci; exact ⟨_, _, _, _, cf_X4, by decide, rfl⟩⟩
theorem fs_X4_61 : jq_FS RX4 61 [3] 9 "WayGuesses$Learnt" "I" false := ⟨"WayGuesses$Learnt", "pairCount", Or.inl gw_400, Or.inl rfl, fun ci hci => by obtain rfl := List.mem_singleton.mp hci; exact ⟨_, _, _, _, cf_X4, by decide, rfl⟩⟩
theorem fs_X3_48 : jq_FS RX3 48 [0, 1, 2, 4, 7, 8] 3 "WayGuesses$Guesser" "LWayGuesses$Learnt;" true := ⟨"WayGuesses$Guesser", "now", Or.inl gw_450, Or.inl rfl, fun ci hci => by
  simp only [List.mem_cons, List.not_mem_nil, or_false] at hci
  rcases hci with rfl | rfl | rfl | rfl | rfl | rfl
  · exact ⟨_, _, _, _, cf_X0, by decide, rfl⟩
  · exact ⟨_, _, _, _, cf_X1, by decide, rfl⟩
  · exact ⟨_, _, _, _, cf_X2, by decide, rfl⟩
  · exact ⟨_, _, _, _, cf_X5, by decide, rfl⟩
  · exact ⟨_, _, _, _, cf_X8, by decide, rfl⟩
  · exact ⟨_, _, _, _, cf_X9, by decide, rfl⟩⟩
theorem fs_X3_37 : jq_FS RX3 37 [0, 1, 2, 4, 7, 8] 2 "WayGuesses$Guesser" "LWayGuesses$Learnt;" true := ⟨"WayGuesses$Guesser", "first", Or.inl gw_447, Or.inl rfl, fun ci hci => by
  simp only [List.mem_cons, List.not_mem_nil, or_false] at hci
  rcases hci with rfl | rfl | rfl | rfl | rfl | rfl
  · exact ⟨_, _, _, _, cf_X0, by decide, rfl⟩
  · exact ⟨_, _, _, _, cf_X1, by decide, rfl⟩
  · exact ⟨_, _, _, _, cf_X2, by decide, rfl⟩
  · exact ⟨_, _, _, _, cf_X5, by decide, rfl⟩
  · exact ⟨_, _, _, _, cf_X8, by decide, rfl⟩
  · exact ⟨_, _, _, _, cf_X9, by decide, rfl⟩⟩
theorem fs_X0_26 : jq_FS RX0 26 [0] 10 "WayGuesses$Chooser" "I" true := ⟨"WayGuesses$Chooser", "mask", Or.inl gw_559, Or.inl rfl, fun ci hci => by obtain rfl := List.mem_singleton.mp hci; exact ⟨_, _, _, _, cf_X0, by decide, rfl⟩⟩
theorem fs_X0_29 : jq_FS RX0 29 [0] 3 "WayGuesses$Guesser" "LWayGuesses$Learnt;" true := ⟨"WayGuesses$Chooser", "now", Or.inl gw_457, Or.inr gw_458, fun ci hci => by obtain rfl := List.mem_singleton.mp hci; exact ⟨_, _, _, _, cf_X0, by decide, rfl⟩⟩
theorem fs_X0_7 : jq_FS RX0 7 [0] 7 "WayGuesses$Chooser" "LWayGuesses$Guesser;" true := ⟨"WayGuesses$Chooser", "one", Or.inl gw_556, Or.inl rfl, fun ci hci => by obtain rfl := List.mem_singleton.mp hci; exact ⟨_, _, _, _, cf_X0, by decide, rfl⟩⟩
theorem fs_X0_41 : jq_FS RX0 41 [0, 1, 2, 4, 7, 8] 6 "WayGuesses$Guesser" "I" false := ⟨"WayGuesses$Guesser", "said", Or.inl gw_466, Or.inl rfl, fun ci hci => by
  simp only [List.mem_cons, List.not_mem_nil, or_false] at hci
  rcases hci with rfl | rfl | rfl | rfl | rfl | rfl
  · exact ⟨_, _, _, _, cf_X0, by decide, rfl⟩
  · exact ⟨_, _, _, _, cf_X1, by decide, rfl⟩
  · exact ⟨_, _, _, _, cf_X2, by decide, rfl⟩
  · exact ⟨_, _, _, _, cf_X5, by decide, rfl⟩
  · exact ⟨_, _, _, _, cf_X8, by decide, rfl⟩
  · exact ⟨_, _, _, _, cf_X9, by decide, rfl⟩⟩
theorem fs_X0_13 : jq_FS RX0 13 [0] 8 "WayGuesses$Chooser" "LWayGuesses$Guesser;" true := ⟨"WayGuesses$Chooser", "other", Or.inl gw_557, Or.inl rfl, fun ci hci => by obtain rfl := List.mem_singleton.mp hci; exact ⟨_, _, _, _, cf_X0, by decide, rfl⟩⟩
theorem fs_X1_19 : jq_FS RX1 19 [1] 8 "WayGuesses$Counters" "I" true := ⟨"WayGuesses$Counters", "historyMask", Or.inl gw_438, Or.inl rfl, fun ci hci => by obtain rfl := List.mem_singleton.mp hci; exact ⟨_, _, _, _, cf_X1, by decide, rfl⟩⟩
theorem fs_X1_26 : jq_FS RX1 26 [1] 10 "WayGuesses$Counters" "I" true := ⟨"WayGuesses$Counters", "placeTimes", Or.inl gw_440, Or.inl rfl, fun ci hci => by obtain rfl := List.mem_singleton.mp hci; exact ⟨_, _, _, _, cf_X1, by decide, rfl⟩⟩
theorem fs_X1_13 : jq_FS RX1 13 [1] 7 "WayGuesses$Counters" "I" true := ⟨"WayGuesses$Counters", "mask", Or.inl gw_437, Or.inl rfl, fun ci hci => by obtain rfl := List.mem_singleton.mp hci; exact ⟨_, _, _, _, cf_X1, by decide, rfl⟩⟩
theorem fs_X1_22 : jq_FS RX1 22 [1] 9 "WayGuesses$Counters" "Z" true := ⟨"WayGuesses$Counters", "own", Or.inl gw_439, Or.inl rfl, fun ci hci => by obtain rfl := List.mem_singleton.mp hci; exact ⟨_, _, _, _, cf_X1, by decide, rfl⟩⟩
theorem fs_X1_29 : jq_FS RX1 29 [1] 3 "WayGuesses$Guesser" "LWayGuesses$Learnt;" true := ⟨"WayGuesses$Counters", "now", Or.inl gw_453, Or.inr gw_454, fun ci hci => by obtain rfl := List.mem_singleton.mp hci; exact ⟨_, _, _, _, cf_X1, by decide, rfl⟩⟩
theorem fs_X1_39 : jq_FS RX1 39 [3] 5 "WayGuesses$Learnt" "I" false := ⟨"WayGuesses$Learnt", "history", Or.inr ⟨_, gw_391⟩, Or.inl rfl, fun ci hci => by obtain rfl := List.mem_singleton.mp hci; exact ⟨_, _, _, _, cf_X4, by decide, rfl⟩⟩
theorem fs_X1_33 : jq_FS RX1 33 [3] 2 "WayGuesses$Learnt" "[I" true := ⟨"WayGuesses$Learnt", "ownHistories", Or.inr ⟨_, gw_385⟩, Or.inl rfl, fun ci hci => by obtain rfl := List.mem_singleton.mp hci; exact ⟨_, _, _, _, cf_X4, by decide, rfl⟩⟩
theorem fs_X2_15 : jq_FS RX2 15 [2] 8 "WayGuesses$Fixed" "I" true := ⟨"WayGuesses$Fixed", "rule", Or.inl gw_583, Or.inl rfl, fun ci hci => by obtain rfl := List.mem_singleton.mp hci; exact ⟨_, _, _, _, cf_X2, by decide, rfl⟩⟩
theorem fs_X2_9 : jq_FS RX2 9 [2] 7 "WayGuesses$Fixed" "LWayGuesses$Machine;" true := ⟨"WayGuesses$Fixed", "machine", Or.inl gw_582, Or.inl rfl, fun ci hci => by obtain rfl := List.mem_singleton.mp hci; exact ⟨_, _, _, _, cf_X2, by decide, rfl⟩⟩
theorem fs_X2_19 : jq_FS RX2 19 [5] 3 "WayGuesses$Machine" "[I" true := ⟨"WayGuesses$Machine", "numbers", Or.inr ⟨_, gw_35⟩, Or.inl rfl, fun ci hci => by obtain rfl := List.mem_singleton.mp hci; exact ⟨_, _, _, _, cf_X6, by decide, rfl⟩⟩
theorem fs_X5_25 : jq_FS RX5 25 [4] 3 "WayGuesses$Guesser" "LWayGuesses$Learnt;" true := ⟨"WayGuesses$Loops", "now", Or.inl gw_448, Or.inr gw_449, fun ci hci => by obtain rfl := List.mem_singleton.mp hci; exact ⟨_, _, _, _, cf_X5, by decide, rfl⟩⟩
theorem fs_X5_19 : jq_FS RX5 19 [3] 0 "WayGuesses$Learnt" "[I" true := ⟨"WayGuesses$Learnt", "cells", Or.inr ⟨_, gw_378⟩, Or.inl rfl, fun ci hci => by obtain rfl := List.mem_singleton.mp hci; exact ⟨_, _, _, _, cf_X4, by decide, rfl⟩⟩
theorem fs_X5_11 : jq_FS RX5 11 [4] 7 "WayGuesses$Loops" "I" true := ⟨"WayGuesses$Loops", "enough", Or.inl gw_538, Or.inl rfl, fun ci hci => by obtain rfl := List.mem_singleton.mp hci; exact ⟨_, _, _, _, cf_X5, by decide, rfl⟩⟩
theorem fs_X8_22 : jq_FS RX8 22 [7] 3 "WayGuesses$Guesser" "LWayGuesses$Learnt;" true := ⟨"WayGuesses$Votes", "now", Or.inl gw_451, Or.inr gw_452, fun ci hci => by obtain rfl := List.mem_singleton.mp hci; exact ⟨_, _, _, _, cf_X8, by decide, rfl⟩⟩
theorem fs_X8_26 : jq_FS RX8 26 [3] 5 "WayGuesses$Learnt" "I" false := ⟨"WayGuesses$Learnt", "history", Or.inr ⟨_, gw_390⟩, Or.inl rfl, fun ci hci => by obtain rfl := List.mem_singleton.mp hci; exact ⟨_, _, _, _, cf_X4, by decide, rfl⟩⟩
theorem fs_X8_19 : jq_FS RX8 19 [7] 8 "WayGuesses$Votes" "I" true := ⟨"WayGuesses$Votes", "history", Or.inl gw_498, Or.inl rfl, fun ci hci => by obtain rfl := List.mem_singleton.mp hci; exact ⟨_, _, _, _, cf_X8, by decide, rfl⟩⟩
theorem fs_X8_29 : jq_FS RX8 29 [7] 5 "WayGuesses$Guesser" "I" true := ⟨"WayGuesses$Votes", "width", Or.inl gw_462, Or.inr gw_463, fun ci hci => by obtain rfl := List.mem_singleton.mp hci; exact ⟨_, _, _, _, cf_X8, by decide, rfl⟩⟩
theorem fs_X8_15 : jq_FS RX8 15 [7] 7 "WayGuesses$Votes" "I" true := ⟨"WayGuesses$Votes", "mask", Or.inl gw_497, Or.inl rfl, fun ci hci => by obtain rfl := List.mem_singleton.mp hci; exact ⟨_, _, _, _, cf_X8, by decide, rfl⟩⟩
theorem fs_X9_13 : jq_FS RX9 13 [8] 7 "WayGuesses$Weights" "I" true := ⟨"WayGuesses$Weights", "mask", Or.inl gw_517, Or.inl rfl, fun ci hci => by obtain rfl := List.mem_singleton.mp hci; exact ⟨_, _, _, _, cf_X9, by decide, rfl⟩⟩
theorem fs_X9_22 : jq_FS RX9 22 [8] 3 "WayGuesses$Guesser" "LWayGuesses$Learnt;" true := ⟨"WayGuesses$Weights", "now", Or.inl gw_455, Or.inr gw_456, fun ci hci => by obtain rfl := List.mem_singleton.mp hci; exact ⟨_, _, _, _, cf_X9, by decide, rfl⟩⟩
theorem fs_X9_26 : jq_FS RX9 26 [3] 5 "WayGuesses$Learnt" "I" false := ⟨"WayGuesses$Learnt", "history", Or.inr ⟨_, gw_392⟩, Or.inl rfl, fun ci hci => by obtain rfl := List.mem_singleton.mp hci; exact ⟨_, _, _, _, cf_X4, by decide, rfl⟩⟩
theorem fs_X9_34 : jq_FS RX9 34 [8] 5 "WayGuesses$Guesser" "I" true := ⟨"WayGuesses$Weights", "width", Or.inl gw_464, Or.inr gw_465, fun ci hci => by obtain rfl := List.mem_singleton.mp hci; exact ⟨_, _, _, _, cf_X9, by decide, rfl⟩⟩
theorem fs_X9_40 : jq_FS RX9 40 [3] 0 "WayGuesses$Learnt" "[I" true := ⟨"WayGuesses$Learnt", "cells", Or.inr ⟨_, gw_381⟩, Or.inl rfl, fun ci hci => by obtain rfl := List.mem_singleton.mp hci; exact ⟨_, _, _, _, cf_X4, by decide, rfl⟩⟩
theorem fs_X3_62 : jq_FS RX3 62 [0, 1, 2, 4, 7, 8] 6 "WayGuesses$Guesser" "I" false := ⟨"WayGuesses$Guesser", "said", Or.inl gw_467, Or.inl rfl, fun ci hci => by
  simp only [List.mem_cons, List.not_mem_nil, or_false] at hci
  rcases hci with rfl | rfl | rfl | rfl | rfl | rfl
  · exact ⟨_, _, _, _, cf_X0, by decide, rfl⟩
  · exact ⟨_, _, _, _, cf_X1, by decide, rfl⟩
  · exact ⟨_, _, _, _, cf_X2, by decide, rfl⟩
  · exact ⟨_, _, _, _, cf_X5, by decide, rfl⟩
  · exact ⟨_, _, _, _, cf_X8, by decide, rfl⟩
  · exact ⟨_, _, _, _, cf_X9, by decide, rfl⟩⟩
theorem fs_X3_9 : jq_FS RX3 9 [0, 1, 2, 4, 7, 8] 0 "WayGuesses$Guesser" "[I" true := ⟨"WayGuesses$Guesser", "hints", Or.inl gw_441, Or.inl rfl, fun ci hci => by
  simp only [List.mem_cons, List.not_mem_nil, or_false] at hci
  rcases hci with rfl | rfl | rfl | rfl | rfl | rfl
  · exact ⟨_, _, _, _, cf_X0, by decide, rfl⟩
  · exact ⟨_, _, _, _, cf_X1, by decide, rfl⟩
  · exact ⟨_, _, _, _, cf_X2, by decide, rfl⟩
  · exact ⟨_, _, _, _, cf_X5, by decide, rfl⟩
  · exact ⟨_, _, _, _, cf_X8, by decide, rfl⟩
  · exact ⟨_, _, _, _, cf_X9, by decide, rfl⟩⟩
theorem fs_X9_19 : jq_FS RX9 19 [8] 8 "WayGuesses$Weights" "I" true := ⟨"WayGuesses$Weights", "sure", Or.inl gw_518, Or.inl rfl, fun ci hci => by obtain rfl := List.mem_singleton.mp hci; exact ⟨_, _, _, _, cf_X9, by decide, rfl⟩⟩
theorem fs_X10_112 : jq_FS RX10 112 [0, 1, 2, 4, 7, 8] 3 "WayGuesses$Guesser" "LWayGuesses$Learnt;" true := ⟨"WayGuesses$Guesser", "now", Or.inl gw_459, Or.inl rfl, fun ci hci => by
  simp only [List.mem_cons, List.not_mem_nil, or_false] at hci
  rcases hci with rfl | rfl | rfl | rfl | rfl | rfl
  · exact ⟨_, _, _, _, cf_X0, by decide, rfl⟩
  · exact ⟨_, _, _, _, cf_X1, by decide, rfl⟩
  · exact ⟨_, _, _, _, cf_X2, by decide, rfl⟩
  · exact ⟨_, _, _, _, cf_X5, by decide, rfl⟩
  · exact ⟨_, _, _, _, cf_X8, by decide, rfl⟩
  · exact ⟨_, _, _, _, cf_X9, by decide, rfl⟩⟩
theorem fs_X10_116 : jq_FS RX10 116 [3] 7 "WayGuesses$Learnt" "I" false := ⟨"WayGuesses$Learnt", "missed", Or.inr ⟨_, gw_397⟩, Or.inl rfl, fun ci hci => by obtain rfl := List.mem_singleton.mp hci; exact ⟨_, _, _, _, cf_X4, by decide, rfl⟩⟩
theorem fs_X10_75 : jq_FS RX10 75 [6] 5 "WayGuesses$Row" "I" false := ⟨"WayGuesses$Row", "size", Or.inr ⟨_, gw_74⟩, Or.inl rfl, fun ci hci => by obtain rfl := List.mem_singleton.mp hci; exact ⟨_, _, _, _, cf_X7, by decide, rfl⟩⟩
theorem fs_X10_124 : jq_FS RX10 124 [3] 6 "WayGuesses$Learnt" "I" false := ⟨"WayGuesses$Learnt", "asked", Or.inr ⟨_, gw_395⟩, Or.inl rfl, fun ci hci => by obtain rfl := List.mem_singleton.mp hci; exact ⟨_, _, _, _, cf_X4, by decide, rfl⟩⟩
theorem fs_X10_157 : jq_FS RX10 157 [0, 1, 2, 4, 7, 8] 1 "WayGuesses$Guesser" "[LWayGuesses$Learnt;" true := ⟨"WayGuesses$Guesser", "kept", Or.inl gw_444, Or.inl rfl, fun ci hci => by
  simp only [List.mem_cons, List.not_mem_nil, or_false] at hci
  rcases hci with rfl | rfl | rfl | rfl | rfl | rfl
  · exact ⟨_, _, _, _, cf_X0, by decide, rfl⟩
  · exact ⟨_, _, _, _, cf_X1, by decide, rfl⟩
  · exact ⟨_, _, _, _, cf_X2, by decide, rfl⟩
  · exact ⟨_, _, _, _, cf_X5, by decide, rfl⟩
  · exact ⟨_, _, _, _, cf_X8, by decide, rfl⟩
  · exact ⟨_, _, _, _, cf_X9, by decide, rfl⟩⟩
theorem fs_X7_41 : jq_FS RX7 41 [6] 6 "WayGuesses$Row" "I" false := ⟨"WayGuesses$Row", "leastMisses", Or.inl gw_75, Or.inl rfl, fun ci hci => by obtain rfl := List.mem_singleton.mp hci; exact ⟨_, _, _, _, cf_X7, by decide, rfl⟩⟩
theorem fs_X7_44 : jq_FS RX7 44 [6] 7 "WayGuesses$Row" "I" false := ⟨"WayGuesses$Row", "unlike", Or.inl gw_77, Or.inl rfl, fun ci hci => by obtain rfl := List.mem_singleton.mp hci; exact ⟨_, _, _, _, cf_X7, by decide, rfl⟩⟩
theorem fs_X7_27 : jq_FS RX7 27 [6] 5 "WayGuesses$Row" "I" false := ⟨"WayGuesses$Row", "size", Or.inl gw_73, Or.inl rfl, fun ci hci => by obtain rfl := List.mem_singleton.mp hci; exact ⟨_, _, _, _, cf_X7, by decide, rfl⟩⟩
theorem fs_X10_173 : jq_FS RX10 173 [6] 6 "WayGuesses$Row" "I" false := ⟨"WayGuesses$Row", "leastMisses", Or.inr ⟨_, gw_76⟩, Or.inl rfl, fun ci hci => by obtain rfl := List.mem_singleton.mp hci; exact ⟨_, _, _, _, cf_X7, by decide, rfl⟩⟩
theorem fs_X10_72 : jq_FS RX10 72 [9] 4 "WayGuesses" "I" false := ⟨"WayGuesses", "branchesEver", Or.inl gw_102, Or.inl rfl, fun ci hci => by obtain rfl := List.mem_singleton.mp hci; exact ⟨_, _, _, _, cf_X10, by decide, rfl⟩⟩
theorem fs_X3_55 : jq_FS RX3 55 [3] 1 "WayGuesses$Learnt" "[I" true := ⟨"WayGuesses$Learnt", "lastPlaces", Or.inr ⟨_, gw_383⟩, Or.inl rfl, fun ci hci => by obtain rfl := List.mem_singleton.mp hci; exact ⟨_, _, _, _, cf_X4, by decide, rfl⟩⟩
theorem fs_X10_131 : jq_FS RX10 131 [3] 8 "WayGuesses$Learnt" "I" false := ⟨"WayGuesses$Learnt", "clashed", Or.inr ⟨_, gw_399⟩, Or.inl rfl, fun ci hci => by obtain rfl := List.mem_singleton.mp hci; exact ⟨_, _, _, _, cf_X4, by decide, rfl⟩⟩
theorem fs_X10_54 : jq_FS RX10 54 [5] 5 "WayGuesses$Machine" "[I" true := ⟨"WayGuesses$Machine", "memory", Or.inr ⟨_, gw_39⟩, Or.inl rfl, fun ci hci => by obtain rfl := List.mem_singleton.mp hci; exact ⟨_, _, _, _, cf_X6, by decide, rfl⟩⟩
theorem fs_X10_103 : jq_FS RX10 103 [0, 1, 2, 4, 7, 8] 6 "WayGuesses$Guesser" "I" false := ⟨"WayGuesses$Guesser", "said", Or.inl gw_468, Or.inl rfl, fun ci hci => by
  simp only [List.mem_cons, List.not_mem_nil, or_false] at hci
  rcases hci with rfl | rfl | rfl | rfl | rfl | rfl
  · exact ⟨_, _, _, _, cf_X0, by decide, rfl⟩
  · exact ⟨_, _, _, _, cf_X1, by decide, rfl⟩
  · exact ⟨_, _, _, _, cf_X2, by decide, rfl⟩
  · exact ⟨_, _, _, _, cf_X5, by decide, rfl⟩
  · exact ⟨_, _, _, _, cf_X8, by decide, rfl⟩
  · exact ⟨_, _, _, _, cf_X9, by decide, rfl⟩⟩
theorem fs_X3_17 : jq_FS RX3 17 [0, 1, 2, 4, 7, 8] 1 "WayGuesses$Guesser" "[LWayGuesses$Learnt;" true := ⟨"WayGuesses$Guesser", "kept", Or.inl gw_443, Or.inl rfl, fun ci hci => by
  simp only [List.mem_cons, List.not_mem_nil, or_false] at hci
  rcases hci with rfl | rfl | rfl | rfl | rfl | rfl
  · exact ⟨_, _, _, _, cf_X0, by decide, rfl⟩
  · exact ⟨_, _, _, _, cf_X1, by decide, rfl⟩
  · exact ⟨_, _, _, _, cf_X2, by decide, rfl⟩
  · exact ⟨_, _, _, _, cf_X5, by decide, rfl⟩
  · exact ⟨_, _, _, _, cf_X8, by decide, rfl⟩
  · exact ⟨_, _, _, _, cf_X9, by decide, rfl⟩⟩
theorem fs_X3_21 : jq_FS RX3 21 [0, 1, 2, 4, 7, 8] 4 "WayGuesses$Guesser" "I" true := ⟨"WayGuesses$Guesser", "tables", Or.inl gw_460, Or.inl rfl, fun ci hci => by
  simp only [List.mem_cons, List.not_mem_nil, or_false] at hci
  rcases hci with rfl | rfl | rfl | rfl | rfl | rfl
  · exact ⟨_, _, _, _, cf_X0, by decide, rfl⟩
  · exact ⟨_, _, _, _, cf_X1, by decide, rfl⟩
  · exact ⟨_, _, _, _, cf_X2, by decide, rfl⟩
  · exact ⟨_, _, _, _, cf_X5, by decide, rfl⟩
  · exact ⟨_, _, _, _, cf_X8, by decide, rfl⟩
  · exact ⟨_, _, _, _, cf_X9, by decide, rfl⟩⟩
theorem fs_X3_25 : jq_FS RX3 25 [0, 1, 2, 4, 7, 8] 5 "WayGuesses$Guesser" "I" true := ⟨"WayGuesses$Guesser", "width", Or.inl gw_461, Or.inl rfl, fun ci hci => by
  simp only [List.mem_cons, List.not_mem_nil, or_false] at hci
  rcases hci with rfl | rfl | rfl | rfl | rfl | rfl
  · exact ⟨_, _, _, _, cf_X0, by decide, rfl⟩
  · exact ⟨_, _, _, _, cf_X1, by decide, rfl⟩
  · exact ⟨_, _, _, _, cf_X2, by decide, rfl⟩
  · exact ⟨_, _, _, _, cf_X5, by decide, rfl⟩
  · exact ⟨_, _, _, _, cf_X8, by decide, rfl⟩
  · exact ⟨_, _, _, _, cf_X9, by decide, rfl⟩⟩
theorem fs_X3_41 : jq_FS RX3 41 [3] 0 "WayGuesses$Learnt" "[I" true := ⟨"WayGuesses$Learnt", "cells", Or.inr ⟨_, gw_380⟩, Or.inl rfl, fun ci hci => by obtain rfl := List.mem_singleton.mp hci; exact ⟨_, _, _, _, cf_X4, by decide, rfl⟩⟩
theorem fs_X5_15 : jq_FS RX5 15 [4] 2 "WayGuesses$Guesser" "LWayGuesses$Learnt;" true := ⟨"WayGuesses$Loops", "first", Or.inl gw_445, Or.inr gw_446, fun ci hci => by obtain rfl := List.mem_singleton.mp hci; exact ⟨_, _, _, _, cf_X5, by decide, rfl⟩⟩
theorem fs_X10_106 : jq_FS RX10 106 [0, 1, 2, 4, 7, 8] 0 "WayGuesses$Guesser" "[I" true := ⟨"WayGuesses$Guesser", "hints", Or.inl gw_442, Or.inl rfl, fun ci hci => by
  simp only [List.mem_cons, List.not_mem_nil, or_false] at hci
  rcases hci with rfl | rfl | rfl | rfl | rfl | rfl
  · exact ⟨_, _, _, _, cf_X0, by decide, rfl⟩
  · exact ⟨_, _, _, _, cf_X1, by decide, rfl⟩
  · exact ⟨_, _, _, _, cf_X2, by decide, rfl⟩
  · exact ⟨_, _, _, _, cf_X5, by decide, rfl⟩
  · exact ⟨_, _, _, _, cf_X8, by decide, rfl⟩
  · exact ⟨_, _, _, _, cf_X9, by decide, rfl⟩⟩
theorem fs_X10_121 : jq_FS RX10 121 [3] 3 "WayGuesses$Learnt" "[I" true := ⟨"WayGuesses$Learnt", "missedAt", Or.inr ⟨_, gw_387⟩, Or.inl rfl, fun ci hci => by obtain rfl := List.mem_singleton.mp hci; exact ⟨_, _, _, _, cf_X4, by decide, rfl⟩⟩
theorem fs_X10_40 : jq_FS RX10 40 [5] 0 "WayGuesses$Machine" "[I" true := ⟨"WayGuesses$Machine", "kinds", Or.inr ⟨_, gw_31⟩, Or.inl rfl, fun ci hci => by obtain rfl := List.mem_singleton.mp hci; exact ⟨_, _, _, _, cf_X6, by decide, rfl⟩⟩
theorem fs_X10_134 : jq_FS RX10 134 [3] 9 "WayGuesses$Learnt" "I" false := ⟨"WayGuesses$Learnt", "pairCount", Or.inr ⟨_, gw_401⟩, Or.inl rfl, fun ci hci => by obtain rfl := List.mem_singleton.mp hci; exact ⟨_, _, _, _, cf_X4, by decide, rfl⟩⟩
theorem fs_X10_137 : jq_FS RX10 137 [3] 4 "WayGuesses$Learnt" "[I" true := ⟨"WayGuesses$Learnt", "pairs", Or.inr ⟨_, gw_389⟩, Or.inl rfl, fun ci hci => by obtain rfl := List.mem_singleton.mp hci; exact ⟨_, _, _, _, cf_X4, by decide, rfl⟩⟩
theorem fs_X10_48 : jq_FS RX10 48 [5] 4 "WayGuesses$Machine" "[I" true := ⟨"WayGuesses$Machine", "registers", Or.inr ⟨_, gw_37⟩, Or.inl rfl, fun ci hci => by obtain rfl := List.mem_singleton.mp hci; exact ⟨_, _, _, _, cf_X6, by decide, rfl⟩⟩
theorem fs_X6_30 : jq_FS RX6 30 [5] 6 "WayGuesses$Machine" "I" false := ⟨"WayGuesses$Machine", "standing", Or.inl gw_40, Or.inl rfl, fun ci hci => by obtain rfl := List.mem_singleton.mp hci; exact ⟨_, _, _, _, cf_X6, by decide, rfl⟩⟩
theorem fs_X6_34 : jq_FS RX6 34 [5] 7 "WayGuesses$Machine" "I" false := ⟨"WayGuesses$Machine", "steps", Or.inl gw_42, Or.inl rfl, fun ci hci => by obtain rfl := List.mem_singleton.mp hci; exact ⟨_, _, _, _, cf_X6, by decide, rfl⟩⟩
theorem fs_X10_57 : jq_FS RX10 57 [5] 6 "WayGuesses$Machine" "I" false := ⟨"WayGuesses$Machine", "standing", Or.inr ⟨_, gw_41⟩, Or.inl rfl, fun ci hci => by obtain rfl := List.mem_singleton.mp hci; exact ⟨_, _, _, _, cf_X6, by decide, rfl⟩⟩
theorem fs_X10_176 : jq_FS RX10 176 [6] 7 "WayGuesses$Row" "I" false := ⟨"WayGuesses$Row", "unlike", Or.inr ⟨_, gw_78⟩, Or.inl rfl, fun ci hci => by obtain rfl := List.mem_singleton.mp hci; exact ⟨_, _, _, _, cf_X7, by decide, rfl⟩⟩
theorem fs_X10_182 : jq_FS RX10 182 [5] 7 "WayGuesses$Machine" "I" false := ⟨"WayGuesses$Machine", "steps", Or.inr ⟨_, gw_43⟩, Or.inl rfl, fun ci hci => by obtain rfl := List.mem_singleton.mp hci; exact ⟨_, _, _, _, cf_X6, by decide, rfl⟩⟩
