/-! words of the law -/
theorem w_904 : (Cond.code yX9_hall cX9_hall 4 (some .int)) ∈ W0 := wt3 _ (List.mem_of_getElem? (i := 58) rfl) rfl
theorem w_905 : (Cond.methodLink RL 7 yX9_hall) ∈ W0 := wt3 _ (List.mem_of_getElem? (i := 55) rfl) rfl
theorem w_906 : (Cond.instanceMethod yX9_hall) ∈ W0 := wt3 _ (List.mem_of_getElem? (i := 56) rfl) rfl
theorem w_907 : (Cond.selects yX9_hall.cls yX9_hall yX9_hall) ∈ W0 := wt3 _ (List.mem_of_getElem? (i := 57) rfl) rfl
theorem w_908 : (Cond.classLink RL 13 (exN 1)) ∈ W0 := wt3 _ (List.mem_of_getElem? (i := 54) rfl) rfl
theorem w_909 : (Cond.code yX9_count cX9_count 2 (some .int)) ∈ W0 := wt4 _ (List.mem_of_getElem? (i := 133) rfl) rfl
theorem w_910 : (Cond.methodLink RL 15 yX9_count) ∈ W0 := wt4 _ (List.mem_of_getElem? (i := 130) rfl) rfl
theorem w_911 : (Cond.instanceMethod yX9_count) ∈ W0 := wt4 _ (List.mem_of_getElem? (i := 131) rfl) rfl
theorem w_912 : (Cond.selects yX9_count.cls yX9_count yX9_count) ∈ W0 := wt4 _ (List.mem_of_getElem? (i := 132) rfl) rfl
theorem w_913 : (Cond.classLink RL 18 (exN 0)) ∈ W0 := wt4 _ (List.mem_of_getElem? (i := 129) rfl) rfl
theorem w_914 : (Cond.code yX9_evening cX9_evening 3 (some .int)) ∈ W0 := wt4 _ (List.mem_of_getElem? (i := 163) rfl) rfl
theorem w_915 : (Cond.methodLink RL 20 yX9_evening) ∈ W0 := wt4 _ (List.mem_of_getElem? (i := 160) rfl) rfl
theorem w_916 : (Cond.instanceMethod yX9_evening) ∈ W0 := wt4 _ (List.mem_of_getElem? (i := 161) rfl) rfl
theorem w_917 : (Cond.selects yX9_evening.cls yX9_evening yX9_evening) ∈ W0 := wt4 _ (List.mem_of_getElem? (i := 162) rfl) rfl
theorem w_918 : (Cond.code yX9_kind cX9_kind 3 (some .int)) ∈ W0 := wt4 _ (List.mem_of_getElem? (i := 180) rfl) rfl
theorem w_919 : (Cond.methodLink RL 24 yX9_kind) ∈ W0 := wt4 _ (List.mem_of_getElem? (i := 177) rfl) rfl
theorem w_920 : (Cond.instanceMethod yX9_kind) ∈ W0 := wt4 _ (List.mem_of_getElem? (i := 178) rfl) rfl
theorem w_921 : (Cond.selects yX9_kind.cls yX9_kind yX9_kind) ∈ W0 := wt4 _ (List.mem_of_getElem? (i := 179) rfl) rfl
theorem w_922 : (Cond.code yX9_price cX9_price 2 (some .int)) ∈ W0 := wt4 _ (List.mem_of_getElem? (i := 192) rfl) rfl
theorem w_923 : (Cond.methodLink RL 27 yX9_price) ∈ W0 := wt4 _ (List.mem_of_getElem? (i := 189) rfl) rfl
theorem w_924 : (Cond.instanceMethod yX9_price) ∈ W0 := wt4 _ (List.mem_of_getElem? (i := 190) rfl) rfl
theorem w_925 : (Cond.selects yX9_price.cls yX9_price yX9_price) ∈ W0 := wt4 _ (List.mem_of_getElem? (i := 191) rfl) rfl
theorem w_926 : (Cond.code yX9_chance cX9_chance 4 (some .int)) ∈ W0 := wt4 _ (List.mem_of_getElem? (i := 203) rfl) rfl
theorem w_927 : (Cond.methodLink RL 30 yX9_chance) ∈ W0 := wt4 _ (List.mem_of_getElem? (i := 200) rfl) rfl
theorem w_928 : (Cond.instanceMethod yX9_chance) ∈ W0 := wt4 _ (List.mem_of_getElem? (i := 201) rfl) rfl
theorem w_929 : (Cond.selects yX9_chance.cls yX9_chance yX9_chance) ∈ W0 := wt4 _ (List.mem_of_getElem? (i := 202) rfl) rfl
theorem w_930 : (Cond.code yX9_good cX9_good 4 (some .int)) ∈ W0 := wt4 _ (List.mem_of_getElem? (i := 211) rfl) rfl
theorem w_931 : (Cond.methodLink RL 34 yX9_good) ∈ W0 := wt4 _ (List.mem_of_getElem? (i := 208) rfl) rfl
theorem w_932 : (Cond.instanceMethod yX9_good) ∈ W0 := wt4 _ (List.mem_of_getElem? (i := 209) rfl) rfl
theorem w_933 : (Cond.selects yX9_good.cls yX9_good yX9_good) ∈ W0 := wt4 _ (List.mem_of_getElem? (i := 210) rfl) rfl
theorem w_934 : (Cond.code yX9_buys cX9_buys 2 (some .int)) ∈ W0 := wt4 _ (List.mem_of_getElem? (i := 221) rfl) rfl
theorem w_935 : (Cond.methodLink RL 37 yX9_buys) ∈ W0 := wt4 _ (List.mem_of_getElem? (i := 218) rfl) rfl
theorem w_936 : (Cond.instanceMethod yX9_buys) ∈ W0 := wt4 _ (List.mem_of_getElem? (i := 219) rfl) rfl
theorem w_937 : (Cond.selects yX9_buys.cls yX9_buys yX9_buys) ∈ W0 := wt4 _ (List.mem_of_getElem? (i := 220) rfl) rfl
theorem w_938 : (Cond.code yX9_goes cX9_goes 5 (some .boolean)) ∈ W0 := wt4 _ (List.mem_of_getElem? (i := 228) rfl) rfl
theorem w_939 : (Cond.methodLink RL 40 yX9_goes) ∈ W0 := wt4 _ (List.mem_of_getElem? (i := 225) rfl) rfl
theorem w_940 : (Cond.instanceMethod yX9_goes) ∈ W0 := wt4 _ (List.mem_of_getElem? (i := 226) rfl) rfl
theorem w_941 : (Cond.selects yX9_goes.cls yX9_goes yX9_goes) ∈ W0 := wt4 _ (List.mem_of_getElem? (i := 227) rfl) rfl
theorem w_942 : (Cond.code yX9_coming cX9_coming 3 (some .int)) ∈ W0 := wt4 _ (List.mem_of_getElem? (i := 237) rfl) rfl
theorem w_943 : (Cond.methodLink RL 44 yX9_coming) ∈ W0 := wt4 _ (List.mem_of_getElem? (i := 234) rfl) rfl
theorem w_944 : (Cond.instanceMethod yX9_coming) ∈ W0 := wt4 _ (List.mem_of_getElem? (i := 235) rfl) rfl
theorem w_945 : (Cond.selects yX9_coming.cls yX9_coming yX9_coming) ∈ W0 := wt4 _ (List.mem_of_getElem? (i := 236) rfl) rfl
theorem w_946 : (Cond.code yX9_often cX9_often 4 (some .long)) ∈ W0 := wt5 _ (List.mem_of_getElem? (i := 5) rfl) rfl
theorem w_947 : (Cond.methodLink RL 47 yX9_often) ∈ W0 := wt5 _ (List.mem_of_getElem? (i := 2) rfl) rfl
theorem w_948 : (Cond.instanceMethod yX9_often) ∈ W0 := wt5 _ (List.mem_of_getElem? (i := 3) rfl) rfl
theorem w_949 : (Cond.selects yX9_often.cls yX9_often yX9_often) ∈ W0 := wt5 _ (List.mem_of_getElem? (i := 4) rfl) rfl
theorem w_950 : (Cond.code yX9_full cX9_full 3 (some .int)) ∈ W0 := wt5 _ (List.mem_of_getElem? (i := 41) rfl) rfl
theorem w_951 : (Cond.methodLink RL 51 yX9_full) ∈ W0 := wt5 _ (List.mem_of_getElem? (i := 38) rfl) rfl
theorem w_952 : (Cond.instanceMethod yX9_full) ∈ W0 := wt5 _ (List.mem_of_getElem? (i := 39) rfl) rfl
theorem w_953 : (Cond.selects yX9_full.cls yX9_full yX9_full) ∈ W0 := wt5 _ (List.mem_of_getElem? (i := 40) rfl) rfl
theorem w_954 : (Cond.code yX9_prices cX9_prices 5 (some .int)) ∈ W0 := wt5 _ (List.mem_of_getElem? (i := 83) rfl) rfl
theorem w_955 : (Cond.methodLink RL 54 yX9_prices) ∈ W0 := wt5 _ (List.mem_of_getElem? (i := 80) rfl) rfl
theorem w_956 : (Cond.instanceMethod yX9_prices) ∈ W0 := wt5 _ (List.mem_of_getElem? (i := 81) rfl) rfl
theorem w_957 : (Cond.selects yX9_prices.cls yX9_prices yX9_prices) ∈ W0 := wt5 _ (List.mem_of_getElem? (i := 82) rfl) rfl
theorem w_958 : (Cond.code yX9_found cX9_found 2 (some .long)) ∈ W0 := wt5 _ (List.mem_of_getElem? (i := 117) rfl) rfl
theorem w_959 : (Cond.methodLink RL 58 yX9_found) ∈ W0 := wt5 _ (List.mem_of_getElem? (i := 114) rfl) rfl
theorem w_960 : (Cond.instanceMethod yX9_found) ∈ W0 := wt5 _ (List.mem_of_getElem? (i := 115) rfl) rfl
theorem w_961 : (Cond.selects yX9_found.cls yX9_found yX9_found) ∈ W0 := wt5 _ (List.mem_of_getElem? (i := 116) rfl) rfl
theorem w_962 : (Cond.code yX9_over cX9_over 3 (some .int)) ∈ W0 := wt5 _ (List.mem_of_getElem? (i := 125) rfl) rfl
theorem w_963 : (Cond.methodLink RL 62 yX9_over) ∈ W0 := wt5 _ (List.mem_of_getElem? (i := 122) rfl) rfl
theorem w_964 : (Cond.instanceMethod yX9_over) ∈ W0 := wt5 _ (List.mem_of_getElem? (i := 123) rfl) rfl
theorem w_965 : (Cond.selects yX9_over.cls yX9_over yX9_over) ∈ W0 := wt5 _ (List.mem_of_getElem? (i := 124) rfl) rfl
theorem w_966 : (Cond.code yX9_again cX9_again 10 (some .int)) ∈ W0 := wt5 _ (List.mem_of_getElem? (i := 143) rfl) rfl
theorem w_967 : (Cond.methodLink RL 65 yX9_again) ∈ W0 := wt5 _ (List.mem_of_getElem? (i := 140) rfl) rfl
theorem w_968 : (Cond.instanceMethod yX9_again) ∈ W0 := wt5 _ (List.mem_of_getElem? (i := 141) rfl) rfl
theorem w_969 : (Cond.selects yX9_again.cls yX9_again yX9_again) ∈ W0 := wt5 _ (List.mem_of_getElem? (i := 142) rfl) rfl
theorem w_970 : (Cond.code yX9_pair cX9_pair 2 (some .long)) ∈ W0 := wt5 _ (List.mem_of_getElem? (i := 175) rfl) rfl
theorem w_971 : (Cond.methodLink RL 69 yX9_pair) ∈ W0 := wt5 _ (List.mem_of_getElem? (i := 172) rfl) rfl
theorem w_972 : (Cond.instanceMethod yX9_pair) ∈ W0 := wt5 _ (List.mem_of_getElem? (i := 173) rfl) rfl
theorem w_973 : (Cond.selects yX9_pair.cls yX9_pair yX9_pair) ∈ W0 := wt5 _ (List.mem_of_getElem? (i := 174) rfl) rfl
theorem w_974 : (Cond.code yX9_paired cX9_paired 2 (some .int)) ∈ W0 := wt5 _ (List.mem_of_getElem? (i := 193) rfl) rfl
theorem w_975 : (Cond.methodLink RL 72 yX9_paired) ∈ W0 := wt5 _ (List.mem_of_getElem? (i := 190) rfl) rfl
theorem w_976 : (Cond.instanceMethod yX9_paired) ∈ W0 := wt5 _ (List.mem_of_getElem? (i := 191) rfl) rfl
theorem w_977 : (Cond.selects yX9_paired.cls yX9_paired yX9_paired) ∈ W0 := wt5 _ (List.mem_of_getElem? (i := 192) rfl) rfl
theorem w_978 : (Cond.code yX9_years cX9_years 4 (some .long)) ∈ W0 := wt5 _ (List.mem_of_getElem? (i := 200) rfl) rfl
theorem w_979 : (Cond.methodLink RL 75 yX9_years) ∈ W0 := wt5 _ (List.mem_of_getElem? (i := 197) rfl) rfl
theorem w_980 : (Cond.instanceMethod yX9_years) ∈ W0 := wt5 _ (List.mem_of_getElem? (i := 198) rfl) rfl
theorem w_981 : (Cond.selects yX9_years.cls yX9_years yX9_years) ∈ W0 := wt5 _ (List.mem_of_getElem? (i := 199) rfl) rfl
theorem w_982 : (Cond.code yX9_ordered cX9_ordered 2 (some .int)) ∈ W0 := wt5 _ (List.mem_of_getElem? (i := 217) rfl) rfl
theorem w_983 : (Cond.methodLink RL 79 yX9_ordered) ∈ W0 := wt5 _ (List.mem_of_getElem? (i := 214) rfl) rfl
theorem w_984 : (Cond.instanceMethod yX9_ordered) ∈ W0 := wt5 _ (List.mem_of_getElem? (i := 215) rfl) rfl
theorem w_985 : (Cond.selects yX9_ordered.cls yX9_ordered yX9_ordered) ∈ W0 := wt5 _ (List.mem_of_getElem? (i := 216) rfl) rfl
theorem w_986 : (Cond.code yX9_owed cX9_owed 3 (some .int)) ∈ W0 := wt5 _ (List.mem_of_getElem? (i := 224) rfl) rfl
theorem w_987 : (Cond.methodLink RL 82 yX9_owed) ∈ W0 := wt5 _ (List.mem_of_getElem? (i := 221) rfl) rfl
theorem w_988 : (Cond.instanceMethod yX9_owed) ∈ W0 := wt5 _ (List.mem_of_getElem? (i := 222) rfl) rfl
theorem w_989 : (Cond.selects yX9_owed.cls yX9_owed yX9_owed) ∈ W0 := wt5 _ (List.mem_of_getElem? (i := 223) rfl) rfl
theorem w_990 : (Cond.code yX9_on cX9_on 2 (some .int)) ∈ W0 := wt6 _ (List.mem_of_getElem? (i := 3) rfl) rfl
theorem w_991 : (Cond.methodLink RL 85 yX9_on) ∈ W0 := wt6 _ (List.mem_of_getElem? (i := 0) rfl) rfl
theorem w_992 : (Cond.instanceMethod yX9_on) ∈ W0 := wt6 _ (List.mem_of_getElem? (i := 1) rfl) rfl
theorem w_993 : (Cond.selects yX9_on.cls yX9_on yX9_on) ∈ W0 := wt6 _ (List.mem_of_getElem? (i := 2) rfl) rfl
theorem w_994 : (Cond.code yX9_seen cX9_seen 3 (some .int)) ∈ W0 := wt6 _ (List.mem_of_getElem? (i := 39) rfl) rfl
theorem w_995 : (Cond.methodLink RL 88 yX9_seen) ∈ W0 := wt6 _ (List.mem_of_getElem? (i := 36) rfl) rfl
theorem w_996 : (Cond.instanceMethod yX9_seen) ∈ W0 := wt6 _ (List.mem_of_getElem? (i := 37) rfl) rfl
theorem w_997 : (Cond.selects yX9_seen.cls yX9_seen yX9_seen) ∈ W0 := wt6 _ (List.mem_of_getElem? (i := 38) rfl) rfl
theorem w_998 : (Cond.code yX9_restore cX9_restore 1 (some .boolean)) ∈ W0 := wt3 _ (List.mem_of_getElem? (i := 50) rfl) rfl
theorem w_999 : (Cond.methodLink RL 203 yX9_restore) ∈ W0 := wt3 _ (List.mem_of_getElem? (i := 47) rfl) rfl
theorem w_1000 : (Cond.instanceMethod yX9_restore) ∈ W0 := wt3 _ (List.mem_of_getElem? (i := 48) rfl) rfl
theorem w_1001 : (Cond.selects yX9_restore.cls yX9_restore yX9_restore) ∈ W0 := wt3 _ (List.mem_of_getElem? (i := 49) rfl) rfl
theorem w_1002 : (Cond.code yX10_restore cX10_restore 1 (some .boolean)) ∈ W0 := wt8 _ (List.mem_of_getElem? (i := 117) rfl) rfl
theorem w_1003 : (Cond.methodLink RL 206 yX10_restore) ∈ W0 := wt8 _ (List.mem_of_getElem? (i := 114) rfl) rfl
theorem w_1004 : (Cond.instanceMethod yX10_restore) ∈ W0 := wt8 _ (List.mem_of_getElem? (i := 115) rfl) rfl
theorem w_1005 : (Cond.selects yX10_restore.cls yX10_restore yX10_restore) ∈ W0 := wt8 _ (List.mem_of_getElem? (i := 116) rfl) rfl
theorem w_1006 : (Cond.code yX9_image cX9_image 1 (some .boolean)) ∈ W0 := wt3 _ (List.mem_of_getElem? (i := 41) rfl) rfl
theorem w_1007 : (Cond.methodLink RL 198 yX9_image) ∈ W0 := wt3 _ (List.mem_of_getElem? (i := 38) rfl) rfl
theorem w_1008 : (Cond.instanceMethod yX9_image) ∈ W0 := wt3 _ (List.mem_of_getElem? (i := 39) rfl) rfl
theorem w_1009 : (Cond.selects yX9_image.cls yX9_image yX9_image) ∈ W0 := wt3 _ (List.mem_of_getElem? (i := 40) rfl) rfl
theorem w_1010 : (Cond.code yX10_image cX10_image 1 (some .boolean)) ∈ W0 := wt8 _ (List.mem_of_getElem? (i := 113) rfl) rfl
theorem w_1011 : (Cond.methodLink RL 202 yX10_image) ∈ W0 := wt8 _ (List.mem_of_getElem? (i := 110) rfl) rfl
theorem w_1012 : (Cond.instanceMethod yX10_image) ∈ W0 := wt8 _ (List.mem_of_getElem? (i := 111) rfl) rfl
theorem w_1013 : (Cond.selects yX10_image.cls yX10_image yX10_image) ∈ W0 := wt8 _ (List.mem_of_getElem? (i := 112) rfl) rfl
theorem w_1014 : (Cond.codeWith yL_seen cL_seen 5 (some .int) [(0, 10, 13, 18)]) ∈ W0 := wt6 _ (List.mem_of_getElem? (i := 35) rfl) rfl
theorem w_1015 : (Cond.initialized RL) ∈ W0 := wt1 _ (List.mem_of_getElem? (i := 0) rfl) rfl
theorem w_1016 : (Cond.methodLink RL 195 yL_seen) ∈ W0 := wt6 _ (List.mem_of_getElem? (i := 33) rfl) rfl
theorem w_1017 : (Cond.static yL_seen) ∈ W0 := wt6 _ (List.mem_of_getElem? (i := 34) rfl) rfl
theorem w_1018 : (Cond.code yX10_seen cX10_seen 3 (some .int)) ∈ W0 := wt8 _ (List.mem_of_getElem? (i := 109) rfl) rfl
theorem w_1019 : (Cond.methodLink RL 197 yX10_seen) ∈ W0 := wt8 _ (List.mem_of_getElem? (i := 106) rfl) rfl
theorem w_1020 : (Cond.instanceMethod yX10_seen) ∈ W0 := wt8 _ (List.mem_of_getElem? (i := 107) rfl) rfl
theorem w_1021 : (Cond.selects yX10_seen.cls yX10_seen yX10_seen) ∈ W0 := wt8 _ (List.mem_of_getElem? (i := 108) rfl) rfl
theorem w_1022 : (Cond.code yX10_thrown cX10_thrown 1 (some .int)) ∈ W0 := wt7 _ (List.mem_of_getElem? (i := 29) rfl) rfl
theorem w_1023 : (Cond.methodLink RL 106 yX10_thrown) ∈ W0 := wt7 _ (List.mem_of_getElem? (i := 26) rfl) rfl
theorem w_1024 : (Cond.instanceMethod yX10_thrown) ∈ W0 := wt7 _ (List.mem_of_getElem? (i := 27) rfl) rfl
theorem w_1025 : (Cond.selects yX10_thrown.cls yX10_thrown yX10_thrown) ∈ W0 := wt7 _ (List.mem_of_getElem? (i := 28) rfl) rfl
theorem w_1026 : (Cond.codeWith yL_on cL_on 4 (some .int) [(0, 9, 12, 13)]) ∈ W0 := wt5 _ (List.mem_of_getElem? (i := 239) rfl) rfl
theorem w_1027 : (Cond.methodLink RL 192 yL_on) ∈ W0 := wt5 _ (List.mem_of_getElem? (i := 237) rfl) rfl
theorem w_1028 : (Cond.static yL_on) ∈ W0 := wt5 _ (List.mem_of_getElem? (i := 238) rfl) rfl
theorem w_1029 : (Cond.code yX10_on cX10_on 3 (some .int)) ∈ W0 := wt8 _ (List.mem_of_getElem? (i := 96) rfl) rfl
theorem w_1030 : (Cond.methodLink RL 194 yX10_on) ∈ W0 := wt8 _ (List.mem_of_getElem? (i := 93) rfl) rfl
theorem w_1031 : (Cond.instanceMethod yX10_on) ∈ W0 := wt8 _ (List.mem_of_getElem? (i := 94) rfl) rfl
theorem w_1032 : (Cond.selects yX10_on.cls yX10_on yX10_on) ∈ W0 := wt8 _ (List.mem_of_getElem? (i := 95) rfl) rfl
theorem w_1033 : (Cond.code yX9_begin cX9_begin 2 none) ∈ W0 := wt3 _ (List.mem_of_getElem? (i := 32) rfl) rfl
theorem w_1034 : (Cond.methodLink RL 187 yX9_begin) ∈ W0 := wt3 _ (List.mem_of_getElem? (i := 29) rfl) rfl
theorem w_1035 : (Cond.instanceMethod yX9_begin) ∈ W0 := wt3 _ (List.mem_of_getElem? (i := 30) rfl) rfl
theorem w_1036 : (Cond.selects yX9_begin.cls yX9_begin yX9_begin) ∈ W0 := wt3 _ (List.mem_of_getElem? (i := 31) rfl) rfl
theorem w_1037 : (Cond.code yX10_begin cX10_begin 5 none) ∈ W0 := wt8 _ (List.mem_of_getElem? (i := 92) rfl) rfl
theorem w_1038 : (Cond.methodLink RL 191 yX10_begin) ∈ W0 := wt8 _ (List.mem_of_getElem? (i := 89) rfl) rfl
theorem w_1039 : (Cond.instanceMethod yX10_begin) ∈ W0 := wt8 _ (List.mem_of_getElem? (i := 90) rfl) rfl
theorem w_1040 : (Cond.selects yX10_begin.cls yX10_begin yX10_begin) ∈ W0 := wt8 _ (List.mem_of_getElem? (i := 91) rfl) rfl
theorem w_1041 : (Cond.codeWith yL_owed cL_owed 5 (some .int) [(0, 10, 13, 18)]) ∈ W0 := wt5 _ (List.mem_of_getElem? (i := 220) rfl) rfl
theorem w_1042 : (Cond.methodLink RL 184 yL_owed) ∈ W0 := wt5 _ (List.mem_of_getElem? (i := 218) rfl) rfl
theorem w_1043 : (Cond.static yL_owed) ∈ W0 := wt5 _ (List.mem_of_getElem? (i := 219) rfl) rfl
theorem w_1044 : (Cond.code yX10_owed cX10_owed 7 (some .int)) ∈ W0 := wt8 _ (List.mem_of_getElem? (i := 88) rfl) rfl
theorem w_1045 : (Cond.methodLink RL 186 yX10_owed) ∈ W0 := wt8 _ (List.mem_of_getElem? (i := 85) rfl) rfl
theorem w_1046 : (Cond.instanceMethod yX10_owed) ∈ W0 := wt8 _ (List.mem_of_getElem? (i := 86) rfl) rfl
theorem w_1047 : (Cond.selects yX10_owed.cls yX10_owed yX10_owed) ∈ W0 := wt8 _ (List.mem_of_getElem? (i := 87) rfl) rfl
theorem w_1048 : (Cond.codeWith yL_ordered cL_ordered 4 (some .int) [(0, 9, 12, 18)]) ∈ W0 := wt5 _ (List.mem_of_getElem? (i := 213) rfl) rfl
theorem w_1049 : (Cond.methodLink RL 181 yL_ordered) ∈ W0 := wt5 _ (List.mem_of_getElem? (i := 211) rfl) rfl
theorem w_1050 : (Cond.static yL_ordered) ∈ W0 := wt5 _ (List.mem_of_getElem? (i := 212) rfl) rfl
theorem w_1051 : (Cond.code yX10_ordered cX10_ordered 2 (some .int)) ∈ W0 := wt8 _ (List.mem_of_getElem? (i := 84) rfl) rfl
theorem w_1052 : (Cond.methodLink RL 183 yX10_ordered) ∈ W0 := wt8 _ (List.mem_of_getElem? (i := 81) rfl) rfl
theorem w_1053 : (Cond.instanceMethod yX10_ordered) ∈ W0 := wt8 _ (List.mem_of_getElem? (i := 82) rfl) rfl
theorem w_1054 : (Cond.selects yX10_ordered.cls yX10_ordered yX10_ordered) ∈ W0 := wt8 _ (List.mem_of_getElem? (i := 83) rfl) rfl
theorem w_1055 : (Cond.code yX9_order cX9_order 1 (some .long)) ∈ W0 := wt2 _ (List.mem_of_getElem? (i := 222) rfl) rfl
theorem w_1056 : (Cond.methodLink RL 177 yX9_order) ∈ W0 := wt2 _ (List.mem_of_getElem? (i := 219) rfl) rfl
theorem w_1057 : (Cond.instanceMethod yX9_order) ∈ W0 := wt2 _ (List.mem_of_getElem? (i := 220) rfl) rfl
theorem w_1058 : (Cond.selects yX9_order.cls yX9_order yX9_order) ∈ W0 := wt2 _ (List.mem_of_getElem? (i := 221) rfl) rfl
theorem w_1059 : (Cond.code yX10_order cX10_order 8 (some .long)) ∈ W0 := wt8 _ (List.mem_of_getElem? (i := 68) rfl) rfl
theorem w_1060 : (Cond.methodLink RL 180 yX10_order) ∈ W0 := wt8 _ (List.mem_of_getElem? (i := 65) rfl) rfl
theorem w_1061 : (Cond.instanceMethod yX10_order) ∈ W0 := wt8 _ (List.mem_of_getElem? (i := 66) rfl) rfl
theorem w_1062 : (Cond.selects yX10_order.cls yX10_order yX10_order) ∈ W0 := wt8 _ (List.mem_of_getElem? (i := 67) rfl) rfl
theorem w_1063 : (Cond.codeWith yL_years cL_years 6 (some .int) [(0, 11, 14, 18), (0, 11, 18, 13)]) ∈ W0 := wt5 _ (List.mem_of_getElem? (i := 196) rfl) rfl
theorem w_1064 : (Cond.methodLink RL 174 yL_years) ∈ W0 := wt5 _ (List.mem_of_getElem? (i := 194) rfl) rfl
theorem w_1065 : (Cond.static yL_years) ∈ W0 := wt5 _ (List.mem_of_getElem? (i := 195) rfl) rfl
theorem w_1066 : (Cond.code yX10_years cX10_years 11 (some .long)) ∈ W0 := wt8 _ (List.mem_of_getElem? (i := 64) rfl) rfl
theorem w_1067 : (Cond.methodLink RL 176 yX10_years) ∈ W0 := wt8 _ (List.mem_of_getElem? (i := 61) rfl) rfl
theorem w_1068 : (Cond.instanceMethod yX10_years) ∈ W0 := wt8 _ (List.mem_of_getElem? (i := 62) rfl) rfl
theorem w_1069 : (Cond.selects yX10_years.cls yX10_years yX10_years) ∈ W0 := wt8 _ (List.mem_of_getElem? (i := 63) rfl) rfl
theorem w_1070 : (Cond.codeWith yL_paired cL_paired 4 (some .int) [(0, 9, 12, 18)]) ∈ W0 := wt5 _ (List.mem_of_getElem? (i := 189) rfl) rfl
theorem w_1071 : (Cond.methodLink RL 171 yL_paired) ∈ W0 := wt5 _ (List.mem_of_getElem? (i := 187) rfl) rfl
theorem w_1072 : (Cond.static yL_paired) ∈ W0 := wt5 _ (List.mem_of_getElem? (i := 188) rfl) rfl
theorem w_1073 : (Cond.code yX10_paired cX10_paired 2 (some .int)) ∈ W0 := wt8 _ (List.mem_of_getElem? (i := 60) rfl) rfl
theorem w_1074 : (Cond.methodLink RL 173 yX10_paired) ∈ W0 := wt8 _ (List.mem_of_getElem? (i := 57) rfl) rfl
theorem w_1075 : (Cond.instanceMethod yX10_paired) ∈ W0 := wt8 _ (List.mem_of_getElem? (i := 58) rfl) rfl
theorem w_1076 : (Cond.selects yX10_paired.cls yX10_paired yX10_paired) ∈ W0 := wt8 _ (List.mem_of_getElem? (i := 59) rfl) rfl
theorem w_1077 : (Cond.codeWith yL_pair cL_pair 4 (some .int) [(0, 8, 11, 13)]) ∈ W0 := wt5 _ (List.mem_of_getElem? (i := 171) rfl) rfl
theorem w_1078 : (Cond.methodLink RL 168 yL_pair) ∈ W0 := wt5 _ (List.mem_of_getElem? (i := 169) rfl) rfl
theorem w_1079 : (Cond.static yL_pair) ∈ W0 := wt5 _ (List.mem_of_getElem? (i := 170) rfl) rfl
theorem w_1080 : (Cond.code yX10_pair cX10_pair 9 (some .long)) ∈ W0 := wt8 _ (List.mem_of_getElem? (i := 56) rfl) rfl
theorem w_1081 : (Cond.methodLink RL 170 yX10_pair) ∈ W0 := wt8 _ (List.mem_of_getElem? (i := 53) rfl) rfl
theorem w_1082 : (Cond.instanceMethod yX10_pair) ∈ W0 := wt8 _ (List.mem_of_getElem? (i := 54) rfl) rfl
theorem w_1083 : (Cond.selects yX10_pair.cls yX10_pair yX10_pair) ∈ W0 := wt8 _ (List.mem_of_getElem? (i := 55) rfl) rfl
theorem w_1084 : (Cond.codeWith yL_again cL_again 6 (some .int) [(0, 12, 15, 18), (0, 12, 19, 13)]) ∈ W0 := wt5 _ (List.mem_of_getElem? (i := 139) rfl) rfl
theorem w_1085 : (Cond.methodLink RL 164 yL_again) ∈ W0 := wt5 _ (List.mem_of_getElem? (i := 137) rfl) rfl
theorem w_1086 : (Cond.static yL_again) ∈ W0 := wt5 _ (List.mem_of_getElem? (i := 138) rfl) rfl
theorem w_1087 : (Cond.code yX10_again cX10_again 18 (some .int)) ∈ W0 := wt8 _ (List.mem_of_getElem? (i := 52) rfl) rfl
theorem w_1088 : (Cond.methodLink RL 167 yX10_again) ∈ W0 := wt8 _ (List.mem_of_getElem? (i := 49) rfl) rfl
theorem w_1089 : (Cond.instanceMethod yX10_again) ∈ W0 := wt8 _ (List.mem_of_getElem? (i := 50) rfl) rfl
theorem w_1090 : (Cond.selects yX10_again.cls yX10_again yX10_again) ∈ W0 := wt8 _ (List.mem_of_getElem? (i := 51) rfl) rfl
theorem w_1091 : (Cond.codeWith yL_over cL_over 5 (some .int) [(0, 10, 13, 18), (0, 10, 17, 13)]) ∈ W0 := wt5 _ (List.mem_of_getElem? (i := 121) rfl) rfl
theorem w_1092 : (Cond.methodLink RL 161 yL_over) ∈ W0 := wt5 _ (List.mem_of_getElem? (i := 119) rfl) rfl
theorem w_1093 : (Cond.static yL_over) ∈ W0 := wt5 _ (List.mem_of_getElem? (i := 120) rfl) rfl
theorem w_1094 : (Cond.code yX10_over cX10_over 7 (some .int)) ∈ W0 := wt8 _ (List.mem_of_getElem? (i := 47) rfl) rfl
theorem w_1095 : (Cond.methodLink RL 163 yX10_over) ∈ W0 := wt8 _ (List.mem_of_getElem? (i := 44) rfl) rfl
theorem w_1096 : (Cond.instanceMethod yX10_over) ∈ W0 := wt8 _ (List.mem_of_getElem? (i := 45) rfl) rfl
theorem w_1097 : (Cond.selects yX10_over.cls yX10_over yX10_over) ∈ W0 := wt8 _ (List.mem_of_getElem? (i := 46) rfl) rfl
theorem w_1098 : (Cond.codeWith yL_found cL_found 4 (some .int) [(0, 8, 11, 18)]) ∈ W0 := wt5 _ (List.mem_of_getElem? (i := 113) rfl) rfl
theorem w_1099 : (Cond.methodLink RL 158 yL_found) ∈ W0 := wt5 _ (List.mem_of_getElem? (i := 111) rfl) rfl
theorem w_1100 : (Cond.static yL_found) ∈ W0 := wt5 _ (List.mem_of_getElem? (i := 112) rfl) rfl
theorem w_1101 : (Cond.code yX10_found cX10_found 2 (some .long)) ∈ W0 := wt8 _ (List.mem_of_getElem? (i := 43) rfl) rfl
theorem w_1102 : (Cond.methodLink RL 160 yX10_found) ∈ W0 := wt8 _ (List.mem_of_getElem? (i := 40) rfl) rfl
theorem w_1103 : (Cond.instanceMethod yX10_found) ∈ W0 := wt8 _ (List.mem_of_getElem? (i := 41) rfl) rfl
theorem w_1104 : (Cond.selects yX10_found.cls yX10_found yX10_found) ∈ W0 := wt8 _ (List.mem_of_getElem? (i := 42) rfl) rfl
theorem w_1105 : (Cond.codeWith yL_prices cL_prices 7 (some .int) [(0, 14, 17, 18), (0, 14, 21, 13)]) ∈ W0 := wt5 _ (List.mem_of_getElem? (i := 79) rfl) rfl
theorem w_1106 : (Cond.methodLink RL 155 yL_prices) ∈ W0 := wt5 _ (List.mem_of_getElem? (i := 77) rfl) rfl
theorem w_1107 : (Cond.static yL_prices) ∈ W0 := wt5 _ (List.mem_of_getElem? (i := 78) rfl) rfl
theorem w_1108 : (Cond.code yX10_prices cX10_prices 14 (some .int)) ∈ W0 := wt8 _ (List.mem_of_getElem? (i := 39) rfl) rfl
theorem w_1109 : (Cond.methodLink RL 157 yX10_prices) ∈ W0 := wt8 _ (List.mem_of_getElem? (i := 36) rfl) rfl
theorem w_1110 : (Cond.instanceMethod yX10_prices) ∈ W0 := wt8 _ (List.mem_of_getElem? (i := 37) rfl) rfl
theorem w_1111 : (Cond.selects yX10_prices.cls yX10_prices yX10_prices) ∈ W0 := wt8 _ (List.mem_of_getElem? (i := 38) rfl) rfl
theorem w_1112 : (Cond.code yX9_earns cX9_earns 1 (some .long)) ∈ W0 := wt2 _ (List.mem_of_getElem? (i := 191) rfl) rfl
theorem w_1113 : (Cond.methodLink RL 150 yX9_earns) ∈ W0 := wt2 _ (List.mem_of_getElem? (i := 188) rfl) rfl
theorem w_1114 : (Cond.instanceMethod yX9_earns) ∈ W0 := wt2 _ (List.mem_of_getElem? (i := 189) rfl) rfl
theorem w_1115 : (Cond.selects yX9_earns.cls yX9_earns yX9_earns) ∈ W0 := wt2 _ (List.mem_of_getElem? (i := 190) rfl) rfl
theorem w_1116 : (Cond.code yX10_earns cX10_earns 1 (some .long)) ∈ W0 := wt8 _ (List.mem_of_getElem? (i := 31) rfl) rfl
theorem w_1117 : (Cond.methodLink RL 154 yX10_earns) ∈ W0 := wt8 _ (List.mem_of_getElem? (i := 28) rfl) rfl
theorem w_1118 : (Cond.instanceMethod yX10_earns) ∈ W0 := wt8 _ (List.mem_of_getElem? (i := 29) rfl) rfl
theorem w_1119 : (Cond.selects yX10_earns.cls yX10_earns yX10_earns) ∈ W0 := wt8 _ (List.mem_of_getElem? (i := 30) rfl) rfl
theorem w_1120 : (Cond.codeWith yL_full cL_full 5 (some .int) [(0, 10, 13, 18)]) ∈ W0 := wt5 _ (List.mem_of_getElem? (i := 37) rfl) rfl
theorem w_1121 : (Cond.methodLink RL 147 yL_full) ∈ W0 := wt5 _ (List.mem_of_getElem? (i := 35) rfl) rfl
theorem w_1122 : (Cond.static yL_full) ∈ W0 := wt5 _ (List.mem_of_getElem? (i := 36) rfl) rfl
theorem w_1123 : (Cond.code yX10_full cX10_full 3 (some .int)) ∈ W0 := wt8 _ (List.mem_of_getElem? (i := 7) rfl) rfl
theorem w_1124 : (Cond.methodLink RL 149 yX10_full) ∈ W0 := wt8 _ (List.mem_of_getElem? (i := 4) rfl) rfl
theorem w_1125 : (Cond.instanceMethod yX10_full) ∈ W0 := wt8 _ (List.mem_of_getElem? (i := 5) rfl) rfl
theorem w_1126 : (Cond.selects yX10_full.cls yX10_full yX10_full) ∈ W0 := wt8 _ (List.mem_of_getElem? (i := 6) rfl) rfl
theorem w_1127 : (Cond.codeWith yL_often cL_often 5 (some .int) [(0, 9, 12, 18)]) ∈ W0 := wt5 _ (List.mem_of_getElem? (i := 1) rfl) rfl
theorem w_1128 : (Cond.methodLink RL 144 yL_often) ∈ W0 := wt4 _ (List.mem_of_getElem? (i := 239) rfl) rfl
theorem w_1129 : (Cond.static yL_often) ∈ W0 := wt5 _ (List.mem_of_getElem? (i := 0) rfl) rfl
theorem w_1130 : (Cond.code yX10_often cX10_often 5 (some .long)) ∈ W0 := wt7 _ (List.mem_of_getElem? (i := 230) rfl) rfl
theorem w_1131 : (Cond.methodLink RL 146 yX10_often) ∈ W0 := wt7 _ (List.mem_of_getElem? (i := 227) rfl) rfl
theorem w_1132 : (Cond.instanceMethod yX10_often) ∈ W0 := wt7 _ (List.mem_of_getElem? (i := 228) rfl) rfl
theorem w_1133 : (Cond.selects yX10_often.cls yX10_often yX10_often) ∈ W0 := wt7 _ (List.mem_of_getElem? (i := 229) rfl) rfl
theorem w_1134 : (Cond.codeWith yL_coming cL_coming 5 (some .int) [(0, 10, 13, 18)]) ∈ W0 := wt4 _ (List.mem_of_getElem? (i := 233) rfl) rfl
theorem w_1135 : (Cond.methodLink RL 141 yL_coming) ∈ W0 := wt4 _ (List.mem_of_getElem? (i := 231) rfl) rfl
theorem w_1136 : (Cond.static yL_coming) ∈ W0 := wt4 _ (List.mem_of_getElem? (i := 232) rfl) rfl
theorem w_1137 : (Cond.code yX10_coming cX10_coming 3 (some .int)) ∈ W0 := wt7 _ (List.mem_of_getElem? (i := 222) rfl) rfl
theorem w_1138 : (Cond.methodLink RL 143 yX10_coming) ∈ W0 := wt7 _ (List.mem_of_getElem? (i := 219) rfl) rfl
theorem w_1139 : (Cond.instanceMethod yX10_coming) ∈ W0 := wt7 _ (List.mem_of_getElem? (i := 220) rfl) rfl
theorem w_1140 : (Cond.selects yX10_coming.cls yX10_coming yX10_coming) ∈ W0 := wt7 _ (List.mem_of_getElem? (i := 221) rfl) rfl
theorem w_1141 : (Cond.codeWith yL_goes cL_goes 7 (some .int) [(0, 21, 24, 18)]) ∈ W0 := wt4 _ (List.mem_of_getElem? (i := 224) rfl) rfl
theorem w_1142 : (Cond.methodLink RL 137 yL_goes) ∈ W0 := wt4 _ (List.mem_of_getElem? (i := 222) rfl) rfl
theorem w_1143 : (Cond.static yL_goes) ∈ W0 := wt4 _ (List.mem_of_getElem? (i := 223) rfl) rfl
theorem w_1144 : (Cond.code yX10_goes cX10_goes 5 (some .boolean)) ∈ W0 := wt7 _ (List.mem_of_getElem? (i := 218) rfl) rfl
theorem w_1145 : (Cond.methodLink RL 140 yX10_goes) ∈ W0 := wt7 _ (List.mem_of_getElem? (i := 215) rfl) rfl
theorem w_1146 : (Cond.instanceMethod yX10_goes) ∈ W0 := wt7 _ (List.mem_of_getElem? (i := 216) rfl) rfl
theorem w_1147 : (Cond.selects yX10_goes.cls yX10_goes yX10_goes) ∈ W0 := wt7 _ (List.mem_of_getElem? (i := 217) rfl) rfl
theorem w_1148 : (Cond.codeWith yL_buys cL_buys 4 (some .int) [(0, 9, 12, 18)]) ∈ W0 := wt4 _ (List.mem_of_getElem? (i := 217) rfl) rfl
theorem w_1149 : (Cond.methodLink RL 134 yL_buys) ∈ W0 := wt4 _ (List.mem_of_getElem? (i := 215) rfl) rfl
theorem w_1150 : (Cond.static yL_buys) ∈ W0 := wt4 _ (List.mem_of_getElem? (i := 216) rfl) rfl
theorem w_1151 : (Cond.code yX10_buys cX10_buys 2 (some .int)) ∈ W0 := wt7 _ (List.mem_of_getElem? (i := 210) rfl) rfl
theorem w_1152 : (Cond.methodLink RL 136 yX10_buys) ∈ W0 := wt7 _ (List.mem_of_getElem? (i := 207) rfl) rfl
theorem w_1153 : (Cond.instanceMethod yX10_buys) ∈ W0 := wt7 _ (List.mem_of_getElem? (i := 208) rfl) rfl
theorem w_1154 : (Cond.selects yX10_buys.cls yX10_buys yX10_buys) ∈ W0 := wt7 _ (List.mem_of_getElem? (i := 209) rfl) rfl
theorem w_1155 : (Cond.codeWith yL_good cL_good 5 (some .int) [(0, 10, 13, 18), (0, 10, 17, 13)]) ∈ W0 := wt4 _ (List.mem_of_getElem? (i := 207) rfl) rfl
theorem w_1156 : (Cond.methodLink RL 131 yL_good) ∈ W0 := wt4 _ (List.mem_of_getElem? (i := 205) rfl) rfl
theorem w_1157 : (Cond.static yL_good) ∈ W0 := wt4 _ (List.mem_of_getElem? (i := 206) rfl) rfl
theorem w_1158 : (Cond.code yX10_good cX10_good 3 (some .int)) ∈ W0 := wt7 _ (List.mem_of_getElem? (i := 202) rfl) rfl
theorem w_1159 : (Cond.methodLink RL 133 yX10_good) ∈ W0 := wt7 _ (List.mem_of_getElem? (i := 199) rfl) rfl
theorem w_1160 : (Cond.instanceMethod yX10_good) ∈ W0 := wt7 _ (List.mem_of_getElem? (i := 200) rfl) rfl
theorem w_1161 : (Cond.selects yX10_good.cls yX10_good yX10_good) ∈ W0 := wt7 _ (List.mem_of_getElem? (i := 201) rfl) rfl
theorem w_1162 : (Cond.codeWith yL_chance cL_chance 6 (some .int) [(0, 12, 15, 18)]) ∈ W0 := wt4 _ (List.mem_of_getElem? (i := 199) rfl) rfl
theorem w_1163 : (Cond.methodLink RL 127 yL_chance) ∈ W0 := wt4 _ (List.mem_of_getElem? (i := 197) rfl) rfl
theorem w_1164 : (Cond.static yL_chance) ∈ W0 := wt4 _ (List.mem_of_getElem? (i := 198) rfl) rfl
theorem w_1165 : (Cond.code yX10_chance cX10_chance 4 (some .int)) ∈ W0 := wt7 _ (List.mem_of_getElem? (i := 198) rfl) rfl
theorem w_1166 : (Cond.methodLink RL 130 yX10_chance) ∈ W0 := wt7 _ (List.mem_of_getElem? (i := 195) rfl) rfl
theorem w_1167 : (Cond.instanceMethod yX10_chance) ∈ W0 := wt7 _ (List.mem_of_getElem? (i := 196) rfl) rfl
theorem w_1168 : (Cond.selects yX10_chance.cls yX10_chance yX10_chance) ∈ W0 := wt7 _ (List.mem_of_getElem? (i := 197) rfl) rfl
theorem w_1169 : (Cond.codeWith yL_price cL_price 4 (some .int) [(0, 9, 12, 18)]) ∈ W0 := wt4 _ (List.mem_of_getElem? (i := 188) rfl) rfl
theorem w_1170 : (Cond.methodLink RL 124 yL_price) ∈ W0 := wt4 _ (List.mem_of_getElem? (i := 186) rfl) rfl
theorem w_1171 : (Cond.static yL_price) ∈ W0 := wt4 _ (List.mem_of_getElem? (i := 187) rfl) rfl
theorem w_1172 : (Cond.code yX10_price cX10_price 2 (some .int)) ∈ W0 := wt7 _ (List.mem_of_getElem? (i := 194) rfl) rfl
theorem w_1173 : (Cond.methodLink RL 126 yX10_price) ∈ W0 := wt7 _ (List.mem_of_getElem? (i := 191) rfl) rfl
theorem w_1174 : (Cond.instanceMethod yX10_price) ∈ W0 := wt7 _ (List.mem_of_getElem? (i := 192) rfl) rfl
theorem w_1175 : (Cond.selects yX10_price.cls yX10_price yX10_price) ∈ W0 := wt7 _ (List.mem_of_getElem? (i := 193) rfl) rfl
theorem w_1176 : (Cond.codeWith yL_kind cL_kind 5 (some .int) [(0, 10, 13, 18)]) ∈ W0 := wt4 _ (List.mem_of_getElem? (i := 176) rfl) rfl
theorem w_1177 : (Cond.methodLink RL 121 yL_kind) ∈ W0 := wt4 _ (List.mem_of_getElem? (i := 174) rfl) rfl
theorem w_1178 : (Cond.static yL_kind) ∈ W0 := wt4 _ (List.mem_of_getElem? (i := 175) rfl) rfl
theorem w_1179 : (Cond.code yX10_kind cX10_kind 3 (some .int)) ∈ W0 := wt7 _ (List.mem_of_getElem? (i := 186) rfl) rfl
theorem w_1180 : (Cond.methodLink RL 123 yX10_kind) ∈ W0 := wt7 _ (List.mem_of_getElem? (i := 183) rfl) rfl
theorem w_1181 : (Cond.instanceMethod yX10_kind) ∈ W0 := wt7 _ (List.mem_of_getElem? (i := 184) rfl) rfl
theorem w_1182 : (Cond.selects yX10_kind.cls yX10_kind yX10_kind) ∈ W0 := wt7 _ (List.mem_of_getElem? (i := 185) rfl) rfl
theorem w_1183 : (Cond.codeWith yL_evening cL_evening 5 (some .int) [(0, 10, 13, 18)]) ∈ W0 := wt4 _ (List.mem_of_getElem? (i := 159) rfl) rfl
theorem w_1184 : (Cond.methodLink RL 117 yL_evening) ∈ W0 := wt4 _ (List.mem_of_getElem? (i := 157) rfl) rfl
theorem w_1185 : (Cond.static yL_evening) ∈ W0 := wt4 _ (List.mem_of_getElem? (i := 158) rfl) rfl
theorem w_1186 : (Cond.code yX10_evening cX10_evening 3 (some .int)) ∈ W0 := wt7 _ (List.mem_of_getElem? (i := 178) rfl) rfl
theorem w_1187 : (Cond.methodLink RL 120 yX10_evening) ∈ W0 := wt7 _ (List.mem_of_getElem? (i := 175) rfl) rfl
theorem w_1188 : (Cond.instanceMethod yX10_evening) ∈ W0 := wt7 _ (List.mem_of_getElem? (i := 176) rfl) rfl
theorem w_1189 : (Cond.selects yX10_evening.cls yX10_evening yX10_evening) ∈ W0 := wt7 _ (List.mem_of_getElem? (i := 177) rfl) rfl
theorem w_1190 : (Cond.codeWith yL_count cL_count 4 (some .int) [(0, 9, 12, 18)]) ∈ W0 := wt4 _ (List.mem_of_getElem? (i := 128) rfl) rfl
theorem w_1191 : (Cond.methodLink RL 114 yL_count) ∈ W0 := wt4 _ (List.mem_of_getElem? (i := 126) rfl) rfl
theorem w_1192 : (Cond.static yL_count) ∈ W0 := wt4 _ (List.mem_of_getElem? (i := 127) rfl) rfl
theorem w_1193 : (Cond.code yX10_count cX10_count 4 (some .int)) ∈ W0 := wt7 _ (List.mem_of_getElem? (i := 167) rfl) rfl
theorem w_1194 : (Cond.methodLink RL 116 yX10_count) ∈ W0 := wt7 _ (List.mem_of_getElem? (i := 164) rfl) rfl
theorem w_1195 : (Cond.instanceMethod yX10_count) ∈ W0 := wt7 _ (List.mem_of_getElem? (i := 165) rfl) rfl
theorem w_1196 : (Cond.selects yX10_count.cls yX10_count yX10_count) ∈ W0 := wt7 _ (List.mem_of_getElem? (i := 166) rfl) rfl
theorem w_1197 : (Cond.code yX9_fault cX9_fault 1 (some .int)) ∈ W0 := wt2 _ (List.mem_of_getElem? (i := 187) rfl) rfl
theorem w_1198 : (Cond.methodLink RL 110 yX9_fault) ∈ W0 := wt2 _ (List.mem_of_getElem? (i := 184) rfl) rfl
theorem w_1199 : (Cond.instanceMethod yX9_fault) ∈ W0 := wt2 _ (List.mem_of_getElem? (i := 185) rfl) rfl
theorem w_1200 : (Cond.selects yX9_fault.cls yX9_fault yX9_fault) ∈ W0 := wt2 _ (List.mem_of_getElem? (i := 186) rfl) rfl
theorem w_1201 : (Cond.code yX10_fault cX10_fault 1 (some .int)) ∈ W0 := wt7 _ (List.mem_of_getElem? (i := 163) rfl) rfl
theorem w_1202 : (Cond.methodLink RL 113 yX10_fault) ∈ W0 := wt7 _ (List.mem_of_getElem? (i := 160) rfl) rfl
theorem w_1203 : (Cond.instanceMethod yX10_fault) ∈ W0 := wt7 _ (List.mem_of_getElem? (i := 161) rfl) rfl
theorem w_1204 : (Cond.selects yX10_fault.cls yX10_fault yX10_fault) ∈ W0 := wt7 _ (List.mem_of_getElem? (i := 162) rfl) rfl
theorem w_1205 : (Cond.codeWith yL_hall cL_hall 4 (some .int) [(0, 9, 12, 13)]) ∈ W0 := wt3 _ (List.mem_of_getElem? (i := 53) rfl) rfl
theorem w_1206 : (Cond.methodLink RL 100 yL_hall) ∈ W0 := wt3 _ (List.mem_of_getElem? (i := 51) rfl) rfl
theorem w_1207 : (Cond.static yL_hall) ∈ W0 := wt3 _ (List.mem_of_getElem? (i := 52) rfl) rfl
theorem w_1208 : (Cond.code yX10_hall cX10_hall 4 (some .int)) ∈ W0 := wt7 _ (List.mem_of_getElem? (i := 41) rfl) rfl
theorem w_1209 : (Cond.methodLink RL 105 yX10_hall) ∈ W0 := wt7 _ (List.mem_of_getElem? (i := 38) rfl) rfl
theorem w_1210 : (Cond.instanceMethod yX10_hall) ∈ W0 := wt7 _ (List.mem_of_getElem? (i := 39) rfl) rfl
theorem w_1211 : (Cond.selects yX10_hall.cls yX10_hall yX10_hall) ∈ W0 := wt7 _ (List.mem_of_getElem? (i := 40) rfl) rfl
theorem w_1212 : (Cond.code yX9_feed cX9_feed 6 (some .int)) ∈ W0 := wt2 _ (List.mem_of_getElem? (i := 176) rfl) rfl
theorem w_1213 : (Cond.methodLink RL 95 yX9_feed) ∈ W0 := wt2 _ (List.mem_of_getElem? (i := 173) rfl) rfl
theorem w_1214 : (Cond.instanceMethod yX9_feed) ∈ W0 := wt2 _ (List.mem_of_getElem? (i := 174) rfl) rfl
theorem w_1215 : (Cond.selects yX9_feed.cls yX9_feed yX9_feed) ∈ W0 := wt2 _ (List.mem_of_getElem? (i := 175) rfl) rfl
theorem w_1216 : (Cond.code yX10_feed cX10_feed 6 (some .int)) ∈ W0 := wt7 _ (List.mem_of_getElem? (i := 33) rfl) rfl
theorem w_1217 : (Cond.methodLink RL 99 yX10_feed) ∈ W0 := wt7 _ (List.mem_of_getElem? (i := 30) rfl) rfl
theorem w_1218 : (Cond.instanceMethod yX10_feed) ∈ W0 := wt7 _ (List.mem_of_getElem? (i := 31) rfl) rfl
theorem w_1219 : (Cond.selects yX10_feed.cls yX10_feed yX10_feed) ∈ W0 := wt7 _ (List.mem_of_getElem? (i := 32) rfl) rfl
theorem mi_X9_hall : MI yX9_hall cX9_hall 4 (some .int) 1 := ⟨w_904, w_5, by decide +kernel, by decide⟩
theorem mi_X9_count : MI yX9_count cX9_count 2 (some .int) 1 := ⟨w_909, w_5, by decide +kernel, by decide⟩
theorem mi_X9_evening : MI yX9_evening cX9_evening 3 (some .int) 2 := ⟨w_914, w_5, by decide +kernel, by decide⟩
theorem mi_X9_kind : MI yX9_kind cX9_kind 3 (some .int) 2 := ⟨w_918, w_5, by decide +kernel, by decide⟩
theorem mi_X9_price : MI yX9_price cX9_price 2 (some .int) 1 := ⟨w_922, w_5, by decide +kernel, by decide⟩
theorem mi_X9_chance : MI yX9_chance cX9_chance 4 (some .int) 3 := ⟨w_926, w_5, by decide +kernel, by decide⟩
theorem mi_X9_good : MI yX9_good cX9_good 4 (some .int) 2 := ⟨w_930, w_5, by decide +kernel, by decide⟩
theorem mi_X9_buys : MI yX9_buys cX9_buys 2 (some .int) 1 := ⟨w_934, w_5, by decide +kernel, by decide⟩
theorem mi_X9_goes : MI yX9_goes cX9_goes 5 (some .boolean) 4 := ⟨w_938, w_5, by decide +kernel, by decide⟩
theorem mi_X9_coming : MI yX9_coming cX9_coming 3 (some .int) 2 := ⟨w_942, w_5, by decide +kernel, by decide⟩
theorem mi_X9_often : MI yX9_often cX9_often 4 (some .long) 2 := ⟨w_946, w_5, by decide +kernel, by decide⟩
theorem mi_X9_full : MI yX9_full cX9_full 3 (some .int) 2 := ⟨w_950, w_5, by decide +kernel, by decide⟩
theorem mi_X9_prices : MI yX9_prices cX9_prices 5 (some .int) 4 := ⟨w_954, w_5, by decide +kernel, by decide⟩
theorem mi_X9_found : MI yX9_found cX9_found 2 (some .long) 1 := ⟨w_958, w_5, by decide +kernel, by decide⟩
theorem mi_X9_over : MI yX9_over cX9_over 3 (some .int) 2 := ⟨w_962, w_5, by decide +kernel, by decide⟩
theorem mi_X9_again : MI yX9_again cX9_again 10 (some .int) 3 := ⟨w_966, w_5, by decide +kernel, by decide⟩
theorem mi_X9_pair : MI yX9_pair cX9_pair 2 (some .long) 1 := ⟨w_970, w_5, by decide +kernel, by decide⟩
theorem mi_X9_paired : MI yX9_paired cX9_paired 2 (some .int) 1 := ⟨w_974, w_5, by decide +kernel, by decide⟩
theorem mi_X9_years : MI yX9_years cX9_years 4 (some .long) 3 := ⟨w_978, w_5, by decide +kernel, by decide⟩
theorem mi_X9_ordered : MI yX9_ordered cX9_ordered 2 (some .int) 1 := ⟨w_982, w_5, by decide +kernel, by decide⟩
theorem mi_X9_owed : MI yX9_owed cX9_owed 3 (some .int) 2 := ⟨w_986, w_5, by decide +kernel, by decide⟩
theorem mi_X9_on : MI yX9_on cX9_on 2 (some .int) 1 := ⟨w_990, w_5, by decide +kernel, by decide⟩
theorem mi_X9_seen : MI yX9_seen cX9_seen 3 (some .int) 2 := ⟨w_994, w_5, by decide +kernel, by decide⟩
theorem mi_X9_restore : MI yX9_restore cX9_restore 1 (some .boolean) 0 := ⟨w_998, w_5, by decide +kernel, by decide⟩
theorem mi_X10_restore : MI yX10_restore cX10_restore 1 (some .boolean) 0 := ⟨w_1002, w_631, by decide +kernel, by decide⟩
theorem mi_X9_image : MI yX9_image cX9_image 1 (some .boolean) 0 := ⟨w_1006, w_5, by decide +kernel, by decide⟩
theorem mi_X10_image : MI yX10_image cX10_image 1 (some .boolean) 0 := ⟨w_1010, w_631, by decide +kernel, by decide⟩
theorem miw_L_seen : MIW yL_seen cL_seen 5 (some .int) 4 [(0, 10, 13, 18)] := ⟨w_1014, w_1015, by decide +kernel, by decide⟩
theorem mi_X10_seen : MI yX10_seen cX10_seen 3 (some .int) 2 := ⟨w_1018, w_631, by decide +kernel, by decide⟩
theorem mi_X10_thrown : MI yX10_thrown cX10_thrown 1 (some .int) 0 := ⟨w_1022, w_631, by decide +kernel, by decide⟩
theorem miw_L_on : MIW yL_on cL_on 4 (some .int) 3 [(0, 9, 12, 13)] := ⟨w_1026, w_1015, by decide +kernel, by decide⟩
theorem mi_X10_on : MI yX10_on cX10_on 3 (some .int) 1 := ⟨w_1029, w_631, by decide +kernel, by decide⟩
theorem mi_X9_begin : MI yX9_begin cX9_begin 2 none 1 := ⟨w_1033, w_5, by decide +kernel, by decide⟩
theorem mi_X10_begin : MI yX10_begin cX10_begin 5 none 1 := ⟨w_1037, w_631, by decide +kernel, by decide⟩
theorem miw_L_owed : MIW yL_owed cL_owed 5 (some .int) 4 [(0, 10, 13, 18)] := ⟨w_1041, w_1015, by decide +kernel, by decide⟩
theorem mi_X10_owed : MI yX10_owed cX10_owed 7 (some .int) 2 := ⟨w_1044, w_631, by decide +kernel, by decide⟩
theorem miw_L_ordered : MIW yL_ordered cL_ordered 4 (some .int) 3 [(0, 9, 12, 18)] := ⟨w_1048, w_1015, by decide +kernel, by decide⟩
theorem mi_X10_ordered : MI yX10_ordered cX10_ordered 2 (some .int) 1 := ⟨w_1051, w_631, by decide +kernel, by decide⟩
theorem mi_X9_order : MI yX9_order cX9_order 1 (some .long) 0 := ⟨w_1055, w_5, by decide +kernel, by decide⟩
theorem mi_X10_order : MI yX10_order cX10_order 8 (some .long) 0 := ⟨w_1059, w_631, by decide +kernel, by decide⟩
theorem miw_L_years : MIW yL_years cL_years 6 (some .int) 5 [(0, 11, 14, 18), (0, 11, 18, 13)] := ⟨w_1063, w_1015, by decide +kernel, by decide⟩
theorem mi_X10_years : MI yX10_years cX10_years 11 (some .long) 3 := ⟨w_1066, w_631, by decide +kernel, by decide⟩
theorem miw_L_paired : MIW yL_paired cL_paired 4 (some .int) 3 [(0, 9, 12, 18)] := ⟨w_1070, w_1015, by decide +kernel, by decide⟩
theorem mi_X10_paired : MI yX10_paired cX10_paired 2 (some .int) 1 := ⟨w_1073, w_631, by decide +kernel, by decide⟩
theorem miw_L_pair : MIW yL_pair cL_pair 4 (some .int) 3 [(0, 8, 11, 13)] := ⟨w_1077, w_1015, by decide +kernel, by decide⟩
theorem mi_X10_pair : MI yX10_pair cX10_pair 9 (some .long) 1 := ⟨w_1080, w_631, by decide +kernel, by decide⟩
theorem miw_L_again : MIW yL_again cL_again 6 (some .int) 5 [(0, 12, 15, 18), (0, 12, 19, 13)] := ⟨w_1084, w_1015, by decide +kernel, by decide⟩
theorem mi_X10_again : MI yX10_again cX10_again 18 (some .int) 3 := ⟨w_1087, w_631, by decide +kernel, by decide⟩
theorem miw_L_over : MIW yL_over cL_over 5 (some .int) 4 [(0, 10, 13, 18), (0, 10, 17, 13)] := ⟨w_1091, w_1015, by decide +kernel, by decide⟩
theorem mi_X10_over : MI yX10_over cX10_over 7 (some .int) 2 := ⟨w_1094, w_631, by decide +kernel, by decide⟩
theorem miw_L_found : MIW yL_found cL_found 4 (some .int) 3 [(0, 8, 11, 18)] := ⟨w_1098, w_1015, by decide +kernel, by decide⟩
theorem mi_X10_found : MI yX10_found cX10_found 2 (some .long) 1 := ⟨w_1101, w_631, by decide +kernel, by decide⟩
theorem miw_L_prices : MIW yL_prices cL_prices 7 (some .int) 6 [(0, 14, 17, 18), (0, 14, 21, 13)] := ⟨w_1105, w_1015, by decide +kernel, by decide⟩
theorem mi_X10_prices : MI yX10_prices cX10_prices 14 (some .int) 4 := ⟨w_1108, w_631, by decide +kernel, by decide⟩
theorem mi_X9_earns : MI yX9_earns cX9_earns 1 (some .long) 0 := ⟨w_1112, w_5, by decide +kernel, by decide⟩
theorem mi_X10_earns : MI yX10_earns cX10_earns 1 (some .long) 0 := ⟨w_1116, w_631, by decide +kernel, by decide⟩
theorem miw_L_full : MIW yL_full cL_full 5 (some .int) 4 [(0, 10, 13, 18)] := ⟨w_1120, w_1015, by decide +kernel, by decide⟩
theorem mi_X10_full : MI yX10_full cX10_full 3 (some .int) 2 := ⟨w_1123, w_631, by decide +kernel, by decide⟩
theorem miw_L_often : MIW yL_often cL_often 5 (some .int) 4 [(0, 9, 12, 18)] := ⟨w_1127, w_1015, by decide +kernel, by decide⟩
theorem mi_X10_often : MI yX10_often cX10_often 5 (some .long) 2 := ⟨w_1130, w_631, by decide +kernel, by decide⟩
theorem miw_L_coming : MIW yL_coming cL_coming 5 (some .int) 4 [(0, 10, 13, 18)] := ⟨w_1134, w_1015, by decide +kernel, by decide⟩
theorem mi_X10_coming : MI yX10_coming cX10_coming 3 (some .int) 2 := ⟨w_1137, w_631, by decide +kernel, by decide⟩
theorem miw_L_goes : MIW yL_goes cL_goes 7 (some .int) 6 [(0, 21, 24, 18)] := ⟨w_1141, w_1015, by decide +kernel, by decide⟩
theorem mi_X10_goes : MI yX10_goes cX10_goes 5 (some .boolean) 4 := ⟨w_1144, w_631, by decide +kernel, by decide⟩
theorem miw_L_buys : MIW yL_buys cL_buys 4 (some .int) 3 [(0, 9, 12, 18)] := ⟨w_1148, w_1015, by decide +kernel, by decide⟩
theorem mi_X10_buys : MI yX10_buys cX10_buys 2 (some .int) 1 := ⟨w_1151, w_631, by decide +kernel, by decide⟩
theorem miw_L_good : MIW yL_good cL_good 5 (some .int) 4 [(0, 10, 13, 18), (0, 10, 17, 13)] := ⟨w_1155, w_1015, by decide +kernel, by decide⟩
theorem mi_X10_good : MI yX10_good cX10_good 3 (some .int) 2 := ⟨w_1158, w_631, by decide +kernel, by decide⟩
theorem miw_L_chance : MIW yL_chance cL_chance 6 (some .int) 5 [(0, 12, 15, 18)] := ⟨w_1162, w_1015, by decide +kernel, by decide⟩
theorem mi_X10_chance : MI yX10_chance cX10_chance 4 (some .int) 3 := ⟨w_1165, w_631, by decide +kernel, by decide⟩
theorem miw_L_price : MIW yL_price cL_price 4 (some .int) 3 [(0, 9, 12, 18)] := ⟨w_1169, w_1015, by decide +kernel, by decide⟩
theorem mi_X10_price : MI yX10_price cX10_price 2 (some .int) 1 := ⟨w_1172, w_631, by decide +kernel, by decide⟩
theorem miw_L_kind : MIW yL_kind cL_kind 5 (some .int) 4 [(0, 10, 13, 18)] := ⟨w_1176, w_1015, by decide +kernel, by decide⟩
theorem mi_X10_kind : MI yX10_kind cX10_kind 3 (some .int) 2 := ⟨w_1179, w_631, by decide +kernel, by decide⟩
theorem miw_L_evening : MIW yL_evening cL_evening 5 (some .int) 4 [(0, 10, 13, 18)] := ⟨w_1183, w_1015, by decide +kernel, by decide⟩
theorem mi_X10_evening : MI yX10_evening cX10_evening 3 (some .int) 2 := ⟨w_1186, w_631, by decide +kernel, by decide⟩
theorem miw_L_count : MIW yL_count cL_count 4 (some .int) 3 [(0, 9, 12, 18)] := ⟨w_1190, w_1015, by decide +kernel, by decide⟩
theorem mi_X10_count : MI yX10_count cX10_count 4 (some .int) 1 := ⟨w_1193, w_631, by decide +kernel, by decide⟩
theorem mi_X9_fault : MI yX9_fault cX9_fault 1 (some .int) 0 := ⟨w_1197, w_5, by decide +kernel, by decide⟩
theorem mi_X10_fault : MI yX10_fault cX10_fault 1 (some .int) 0 := ⟨w_1201, w_631, by decide +kernel, by decide⟩
theorem miw_L_hall : MIW yL_hall cL_hall 4 (some .int) 3 [(0, 9, 12, 13)] := ⟨w_1205, w_1015, by decide +kernel, by decide⟩
theorem mi_X10_hall : MI yX10_hall cX10_hall 4 (some .int) 1 := ⟨w_1208, w_631, by decide +kernel, by decide⟩
theorem mi_X9_feed : MI yX9_feed cX9_feed 6 (some .int) 5 := ⟨w_1212, w_5, by decide +kernel, by decide⟩
theorem mi_X10_feed : MI yX10_feed cX10_feed 6 (some .int) 5 := ⟨w_1216, w_631, by decide +kernel, by decide⟩
