theorem tw_928 : Cond.code yX5_row cX5_row 3 (some .int) ∈ TBL := tbl_1 (i := 187) (by decide +kernel) (by decide +kernel)
theorem tw_929 : Cond.methodLink RL 13 yX5_row ∈ TBL := tbl_1 (i := 184) (by decide +kernel) (by decide +kernel)
theorem tw_930 : Cond.instanceMethod yX5_row ∈ TBL := tbl_1 (i := 185) (by decide +kernel) (by decide +kernel)
theorem tw_931 : Cond.selects RX5 yX5_row yX5_row ∈ TBL := tbl_1 (i := 186) (by decide +kernel) (by decide +kernel)
theorem vw_RL_13 : VW RL 13 RX5 yX5_row (.code yX5_row cX5_row 3 (some .int)) 2 := ⟨good_V tw_929 tw_930 tw_931 tw_60 tw_928, by decide +kernel⟩
theorem tw_933 : Cond.code yX6_row cX6_row 3 (some .int) ∈ TBL := tbl_4 (i := 162) (by decide +kernel) (by decide +kernel)
theorem tw_934 : Cond.methodLink RL 17 yX6_row ∈ TBL := tbl_4 (i := 159) (by decide +kernel) (by decide +kernel)
theorem tw_935 : Cond.instanceMethod yX6_row ∈ TBL := tbl_4 (i := 160) (by decide +kernel) (by decide +kernel)
theorem tw_936 : Cond.selects RX6 yX6_row yX6_row ∈ TBL := tbl_4 (i := 161) (by decide +kernel) (by decide +kernel)
theorem vw_RL_17 : VW RL 17 RX6 yX6_row (.code yX6_row cX6_row 3 (some .int)) 2 := ⟨good_V tw_934 tw_935 tw_936 tw_618 tw_933, by decide +kernel⟩
theorem tw_938 : Cond.code yX5_lay cX5_lay 5 (some .int) ∈ TBL := tbl_1 (i := 207) (by decide +kernel) (by decide +kernel)
theorem tw_939 : Cond.methodLink RL 18 yX5_lay ∈ TBL := tbl_1 (i := 204) (by decide +kernel) (by decide +kernel)
theorem tw_940 : Cond.instanceMethod yX5_lay ∈ TBL := tbl_1 (i := 205) (by decide +kernel) (by decide +kernel)
theorem tw_941 : Cond.selects RX5 yX5_lay yX5_lay ∈ TBL := tbl_1 (i := 206) (by decide +kernel) (by decide +kernel)
theorem vw_RL_18 : VW RL 18 RX5 yX5_lay (.code yX5_lay cX5_lay 5 (some .int)) 3 := ⟨good_V tw_939 tw_940 tw_941 tw_60 tw_938, by decide +kernel⟩
theorem tw_943 : Cond.code yX6_lay cX6_lay 6 (some .int) ∈ TBL := tbl_4 (i := 181) (by decide +kernel) (by decide +kernel)
theorem tw_944 : Cond.methodLink RL 22 yX6_lay ∈ TBL := tbl_4 (i := 178) (by decide +kernel) (by decide +kernel)
theorem tw_945 : Cond.instanceMethod yX6_lay ∈ TBL := tbl_4 (i := 179) (by decide +kernel) (by decide +kernel)
theorem tw_946 : Cond.selects RX6 yX6_lay yX6_lay ∈ TBL := tbl_4 (i := 180) (by decide +kernel) (by decide +kernel)
theorem vw_RL_22 : VW RL 22 RX6 yX6_lay (.code yX6_lay cX6_lay 6 (some .int)) 3 := ⟨good_V tw_944 tw_945 tw_946 tw_618 tw_943, by decide +kernel⟩
theorem tw_948 : Cond.code yX5_at cX5_at 4 (some .int) ∈ TBL := tbl_1 (i := 232) (by decide +kernel) (by decide +kernel)
theorem tw_949 : Cond.methodLink RL 23 yX5_at ∈ TBL := tbl_1 (i := 229) (by decide +kernel) (by decide +kernel)
theorem tw_950 : Cond.instanceMethod yX5_at ∈ TBL := tbl_1 (i := 230) (by decide +kernel) (by decide +kernel)
theorem tw_951 : Cond.selects RX5 yX5_at yX5_at ∈ TBL := tbl_1 (i := 231) (by decide +kernel) (by decide +kernel)
theorem vw_RL_23 : VW RL 23 RX5 yX5_at (.code yX5_at cX5_at 4 (some .int)) 2 := ⟨good_V tw_949 tw_950 tw_951 tw_60 tw_948, by decide +kernel⟩
theorem tw_953 : Cond.code yX6_at cX6_at 4 (some .int) ∈ TBL := tbl_4 (i := 193) (by decide +kernel) (by decide +kernel)
theorem tw_954 : Cond.methodLink RL 26 yX6_at ∈ TBL := tbl_4 (i := 190) (by decide +kernel) (by decide +kernel)
theorem tw_955 : Cond.instanceMethod yX6_at ∈ TBL := tbl_4 (i := 191) (by decide +kernel) (by decide +kernel)
theorem tw_956 : Cond.selects RX6 yX6_at yX6_at ∈ TBL := tbl_4 (i := 192) (by decide +kernel) (by decide +kernel)
theorem vw_RL_26 : VW RL 26 RX6 yX6_at (.code yX6_at cX6_at 4 (some .int)) 2 := ⟨good_V tw_954 tw_955 tw_956 tw_618 tw_953, by decide +kernel⟩
theorem tw_958 : Cond.code yX5_tear cX5_tear 3 (some .int) ∈ TBL := tbl_1 (i := 236) (by decide +kernel) (by decide +kernel)
theorem tw_959 : Cond.methodLink RL 27 yX5_tear ∈ TBL := tbl_1 (i := 233) (by decide +kernel) (by decide +kernel)
theorem tw_960 : Cond.instanceMethod yX5_tear ∈ TBL := tbl_1 (i := 234) (by decide +kernel) (by decide +kernel)
theorem tw_961 : Cond.selects RX5 yX5_tear yX5_tear ∈ TBL := tbl_1 (i := 235) (by decide +kernel) (by decide +kernel)
theorem vw_RL_27 : VW RL 27 RX5 yX5_tear (.code yX5_tear cX5_tear 3 (some .int)) 1 := ⟨good_V tw_959 tw_960 tw_961 tw_60 tw_958, by decide +kernel⟩
theorem tw_963 : Cond.code yX6_tear cX6_tear 2 (some .int) ∈ TBL := tbl_4 (i := 197) (by decide +kernel) (by decide +kernel)
theorem tw_964 : Cond.methodLink RL 31 yX6_tear ∈ TBL := tbl_4 (i := 194) (by decide +kernel) (by decide +kernel)
theorem tw_965 : Cond.instanceMethod yX6_tear ∈ TBL := tbl_4 (i := 195) (by decide +kernel) (by decide +kernel)
theorem tw_966 : Cond.selects RX6 yX6_tear yX6_tear ∈ TBL := tbl_4 (i := 196) (by decide +kernel) (by decide +kernel)
theorem vw_RL_31 : VW RL 31 RX6 yX6_tear (.code yX6_tear cX6_tear 2 (some .int)) 1 := ⟨good_V tw_964 tw_965 tw_966 tw_618 tw_963, by decide +kernel⟩
theorem tw_968 : Cond.code yX5_copy cX5_copy 6 (some .int) ∈ TBL := tbl_2 (i := 4) (by decide +kernel) (by decide +kernel)
theorem tw_969 : Cond.methodLink RL 32 yX5_copy ∈ TBL := tbl_2 (i := 1) (by decide +kernel) (by decide +kernel)
theorem tw_970 : Cond.instanceMethod yX5_copy ∈ TBL := tbl_2 (i := 2) (by decide +kernel) (by decide +kernel)
theorem tw_971 : Cond.selects RX5 yX5_copy yX5_copy ∈ TBL := tbl_2 (i := 3) (by decide +kernel) (by decide +kernel)
theorem vw_RL_32 : VW RL 32 RX5 yX5_copy (.code yX5_copy cX5_copy 6 (some .int)) 5 := ⟨good_V tw_969 tw_970 tw_971 tw_60 tw_968, by decide +kernel⟩
theorem tw_973 : Cond.code yX6_copy cX6_copy 9 (some .int) ∈ TBL := tbl_4 (i := 201) (by decide +kernel) (by decide +kernel)
theorem tw_974 : Cond.methodLink RL 36 yX6_copy ∈ TBL := tbl_4 (i := 198) (by decide +kernel) (by decide +kernel)
theorem tw_975 : Cond.instanceMethod yX6_copy ∈ TBL := tbl_4 (i := 199) (by decide +kernel) (by decide +kernel)
theorem tw_976 : Cond.selects RX6 yX6_copy yX6_copy ∈ TBL := tbl_4 (i := 200) (by decide +kernel) (by decide +kernel)
theorem vw_RL_36 : VW RL 36 RX6 yX6_copy (.code yX6_copy cX6_copy 9 (some .int)) 5 := ⟨good_V tw_974 tw_975 tw_976 tw_618 tw_973, by decide +kernel⟩
theorem tw_978 : Cond.code yX5_mean cX5_mean 4 (some .int) ∈ TBL := tbl_2 (i := 15) (by decide +kernel) (by decide +kernel)
theorem tw_979 : Cond.methodLink RL 37 yX5_mean ∈ TBL := tbl_2 (i := 12) (by decide +kernel) (by decide +kernel)
theorem tw_980 : Cond.instanceMethod yX5_mean ∈ TBL := tbl_2 (i := 13) (by decide +kernel) (by decide +kernel)
theorem tw_981 : Cond.selects RX5 yX5_mean yX5_mean ∈ TBL := tbl_2 (i := 14) (by decide +kernel) (by decide +kernel)
theorem vw_RL_37 : VW RL 37 RX5 yX5_mean (.code yX5_mean cX5_mean 4 (some .int)) 1 := ⟨good_V tw_979 tw_980 tw_981 tw_60 tw_978, by decide +kernel⟩
theorem tw_983 : Cond.code yX6_mean cX6_mean 5 (some .int) ∈ TBL := tbl_4 (i := 209) (by decide +kernel) (by decide +kernel)
theorem tw_984 : Cond.methodLink RL 40 yX6_mean ∈ TBL := tbl_4 (i := 206) (by decide +kernel) (by decide +kernel)
theorem tw_985 : Cond.instanceMethod yX6_mean ∈ TBL := tbl_4 (i := 207) (by decide +kernel) (by decide +kernel)
theorem tw_986 : Cond.selects RX6 yX6_mean yX6_mean ∈ TBL := tbl_4 (i := 208) (by decide +kernel) (by decide +kernel)
theorem vw_RL_40 : VW RL 40 RX6 yX6_mean (.code yX6_mean cX6_mean 5 (some .int)) 1 := ⟨good_V tw_984 tw_985 tw_986 tw_618 tw_983, by decide +kernel⟩
theorem tw_988 : Cond.code yX5_text cX5_text 3 (some .int) ∈ TBL := tbl_2 (i := 28) (by decide +kernel) (by decide +kernel)
theorem tw_989 : Cond.methodLink RL 41 yX5_text ∈ TBL := tbl_2 (i := 25) (by decide +kernel) (by decide +kernel)
theorem tw_990 : Cond.instanceMethod yX5_text ∈ TBL := tbl_2 (i := 26) (by decide +kernel) (by decide +kernel)
theorem tw_991 : Cond.selects RX5 yX5_text yX5_text ∈ TBL := tbl_2 (i := 27) (by decide +kernel) (by decide +kernel)
theorem vw_RL_41 : VW RL 41 RX5 yX5_text (.code yX5_text cX5_text 3 (some .int)) 2 := ⟨good_V tw_989 tw_990 tw_991 tw_60 tw_988, by decide +kernel⟩
theorem tw_993 : Cond.code yX6_text cX6_text 4 (some .int) ∈ TBL := tbl_4 (i := 213) (by decide +kernel) (by decide +kernel)
theorem tw_994 : Cond.methodLink RL 44 yX6_text ∈ TBL := tbl_4 (i := 210) (by decide +kernel) (by decide +kernel)
theorem tw_995 : Cond.instanceMethod yX6_text ∈ TBL := tbl_4 (i := 211) (by decide +kernel) (by decide +kernel)
theorem tw_996 : Cond.selects RX6 yX6_text yX6_text ∈ TBL := tbl_4 (i := 212) (by decide +kernel) (by decide +kernel)
theorem vw_RL_44 : VW RL 44 RX6 yX6_text (.code yX6_text cX6_text 4 (some .int)) 2 := ⟨good_V tw_994 tw_995 tw_996 tw_618 tw_993, by decide +kernel⟩
theorem tw_998 : Cond.code yX5_put cX5_put 6 (some .int) ∈ TBL := tbl_2 (i := 32) (by decide +kernel) (by decide +kernel)
theorem tw_999 : Cond.methodLink RL 45 yX5_put ∈ TBL := tbl_2 (i := 29) (by decide +kernel) (by decide +kernel)
theorem tw_1000 : Cond.instanceMethod yX5_put ∈ TBL := tbl_2 (i := 30) (by decide +kernel) (by decide +kernel)
theorem tw_1001 : Cond.selects RX5 yX5_put yX5_put ∈ TBL := tbl_2 (i := 31) (by decide +kernel) (by decide +kernel)
theorem vw_RL_45 : VW RL 45 RX5 yX5_put (.code yX5_put cX5_put 6 (some .int)) 3 := ⟨good_V tw_999 tw_1000 tw_1001 tw_60 tw_998, by decide +kernel⟩
theorem tw_1003 : Cond.code yX6_put cX6_put 5 (some .int) ∈ TBL := tbl_4 (i := 221) (by decide +kernel) (by decide +kernel)
theorem tw_1004 : Cond.methodLink RL 48 yX6_put ∈ TBL := tbl_4 (i := 218) (by decide +kernel) (by decide +kernel)
theorem tw_1005 : Cond.instanceMethod yX6_put ∈ TBL := tbl_4 (i := 219) (by decide +kernel) (by decide +kernel)
theorem tw_1006 : Cond.selects RX6 yX6_put yX6_put ∈ TBL := tbl_4 (i := 220) (by decide +kernel) (by decide +kernel)
theorem vw_RL_48 : VW RL 48 RX6 yX6_put (.code yX6_put cX6_put 5 (some .int)) 3 := ⟨good_V tw_1004 tw_1005 tw_1006 tw_618 tw_1003, by decide +kernel⟩
theorem tw_1008 : Cond.code yX5_fault cX5_fault 3 (some .int) ∈ TBL := tbl_2 (i := 36) (by decide +kernel) (by decide +kernel)
theorem tw_1009 : Cond.methodLink RL 49 yX5_fault ∈ TBL := tbl_2 (i := 33) (by decide +kernel) (by decide +kernel)
theorem tw_1010 : Cond.instanceMethod yX5_fault ∈ TBL := tbl_2 (i := 34) (by decide +kernel) (by decide +kernel)
theorem tw_1011 : Cond.selects RX5 yX5_fault yX5_fault ∈ TBL := tbl_2 (i := 35) (by decide +kernel) (by decide +kernel)
theorem vw_RL_49 : VW RL 49 RX5 yX5_fault (.code yX5_fault cX5_fault 3 (some .int)) 1 := ⟨good_V tw_1009 tw_1010 tw_1011 tw_60 tw_1008, by decide +kernel⟩
theorem tw_1013 : Cond.code yX6_fault cX6_fault 2 (some .int) ∈ TBL := tbl_4 (i := 225) (by decide +kernel) (by decide +kernel)
theorem tw_1014 : Cond.methodLink RL 52 yX6_fault ∈ TBL := tbl_4 (i := 222) (by decide +kernel) (by decide +kernel)
theorem tw_1015 : Cond.instanceMethod yX6_fault ∈ TBL := tbl_4 (i := 223) (by decide +kernel) (by decide +kernel)
theorem tw_1016 : Cond.selects RX6 yX6_fault yX6_fault ∈ TBL := tbl_4 (i := 224) (by decide +kernel) (by decide +kernel)
theorem vw_RL_52 : VW RL 52 RX6 yX6_fault (.code yX6_fault cX6_fault 2 (some .int)) 1 := ⟨good_V tw_1014 tw_1015 tw_1016 tw_618 tw_1013, by decide +kernel⟩
theorem tw_1018 : Cond.code yX5_lane cX5_lane 4 (some .int) ∈ TBL := tbl_2 (i := 90) (by decide +kernel) (by decide +kernel)
theorem tw_1019 : Cond.methodLink RL 53 yX5_lane ∈ TBL := tbl_2 (i := 87) (by decide +kernel) (by decide +kernel)
theorem tw_1020 : Cond.instanceMethod yX5_lane ∈ TBL := tbl_2 (i := 88) (by decide +kernel) (by decide +kernel)
theorem tw_1021 : Cond.selects RX5 yX5_lane yX5_lane ∈ TBL := tbl_2 (i := 89) (by decide +kernel) (by decide +kernel)
theorem vw_RL_53 : VW RL 53 RX5 yX5_lane (.code yX5_lane cX5_lane 4 (some .int)) 1 := ⟨good_V tw_1019 tw_1020 tw_1021 tw_60 tw_1018, by decide +kernel⟩
theorem tw_1023 : Cond.code yX6_lane cX6_lane 4 (some .int) ∈ TBL := tbl_5 (i := 16) (by decide +kernel) (by decide +kernel)
theorem tw_1024 : Cond.methodLink RL 56 yX6_lane ∈ TBL := tbl_5 (i := 13) (by decide +kernel) (by decide +kernel)
theorem tw_1025 : Cond.instanceMethod yX6_lane ∈ TBL := tbl_5 (i := 14) (by decide +kernel) (by decide +kernel)
theorem tw_1026 : Cond.selects RX6 yX6_lane yX6_lane ∈ TBL := tbl_5 (i := 15) (by decide +kernel) (by decide +kernel)
theorem vw_RL_56 : VW RL 56 RX6 yX6_lane (.code yX6_lane cX6_lane 4 (some .int)) 1 := ⟨good_V tw_1024 tw_1025 tw_1026 tw_618 tw_1023, by decide +kernel⟩
theorem tw_1028 : Cond.code yX5_shop cX5_shop 3 (some .int) ∈ TBL := tbl_2 (i := 105) (by decide +kernel) (by decide +kernel)
theorem tw_1029 : Cond.methodLink RL 57 yX5_shop ∈ TBL := tbl_2 (i := 102) (by decide +kernel) (by decide +kernel)
theorem tw_1030 : Cond.instanceMethod yX5_shop ∈ TBL := tbl_2 (i := 103) (by decide +kernel) (by decide +kernel)
theorem tw_1031 : Cond.selects RX5 yX5_shop yX5_shop ∈ TBL := tbl_2 (i := 104) (by decide +kernel) (by decide +kernel)
theorem vw_RL_57 : VW RL 57 RX5 yX5_shop (.code yX5_shop cX5_shop 3 (some .int)) 2 := ⟨good_V tw_1029 tw_1030 tw_1031 tw_60 tw_1028, by decide +kernel⟩
theorem tw_1033 : Cond.code yX6_shop cX6_shop 3 (some .int) ∈ TBL := tbl_5 (i := 20) (by decide +kernel) (by decide +kernel)
theorem tw_1034 : Cond.methodLink RL 60 yX6_shop ∈ TBL := tbl_5 (i := 17) (by decide +kernel) (by decide +kernel)
theorem tw_1035 : Cond.instanceMethod yX6_shop ∈ TBL := tbl_5 (i := 18) (by decide +kernel) (by decide +kernel)
theorem tw_1036 : Cond.selects RX6 yX6_shop yX6_shop ∈ TBL := tbl_5 (i := 19) (by decide +kernel) (by decide +kernel)
theorem vw_RL_60 : VW RL 60 RX6 yX6_shop (.code yX6_shop cX6_shop 3 (some .int)) 2 := ⟨good_V tw_1034 tw_1035 tw_1036 tw_618 tw_1033, by decide +kernel⟩
theorem tw_1038 : Cond.code yX5_mark cX5_mark 3 (some .int) ∈ TBL := tbl_2 (i := 129) (by decide +kernel) (by decide +kernel)
theorem tw_1039 : Cond.methodLink RL 61 yX5_mark ∈ TBL := tbl_2 (i := 126) (by decide +kernel) (by decide +kernel)
theorem tw_1040 : Cond.instanceMethod yX5_mark ∈ TBL := tbl_2 (i := 127) (by decide +kernel) (by decide +kernel)
theorem tw_1041 : Cond.selects RX5 yX5_mark yX5_mark ∈ TBL := tbl_2 (i := 128) (by decide +kernel) (by decide +kernel)
theorem vw_RL_61 : VW RL 61 RX5 yX5_mark (.code yX5_mark cX5_mark 3 (some .int)) 2 := ⟨good_V tw_1039 tw_1040 tw_1041 tw_60 tw_1038, by decide +kernel⟩
theorem tw_1043 : Cond.code yX6_mark cX6_mark 3 (some .int) ∈ TBL := tbl_5 (i := 45) (by decide +kernel) (by decide +kernel)
theorem tw_1044 : Cond.methodLink RL 64 yX6_mark ∈ TBL := tbl_5 (i := 42) (by decide +kernel) (by decide +kernel)
theorem tw_1045 : Cond.instanceMethod yX6_mark ∈ TBL := tbl_5 (i := 43) (by decide +kernel) (by decide +kernel)
theorem tw_1046 : Cond.selects RX6 yX6_mark yX6_mark ∈ TBL := tbl_5 (i := 44) (by decide +kernel) (by decide +kernel)
theorem vw_RL_64 : VW RL 64 RX6 yX6_mark (.code yX6_mark cX6_mark 3 (some .int)) 2 := ⟨good_V tw_1044 tw_1045 tw_1046 tw_618 tw_1043, by decide +kernel⟩
theorem tw_1048 : Cond.code yX5_stock cX5_stock 4 (some .int) ∈ TBL := tbl_2 (i := 179) (by decide +kernel) (by decide +kernel)
theorem tw_1049 : Cond.methodLink RL 65 yX5_stock ∈ TBL := tbl_2 (i := 176) (by decide +kernel) (by decide +kernel)
theorem tw_1050 : Cond.instanceMethod yX5_stock ∈ TBL := tbl_2 (i := 177) (by decide +kernel) (by decide +kernel)
theorem tw_1051 : Cond.selects RX5 yX5_stock yX5_stock ∈ TBL := tbl_2 (i := 178) (by decide +kernel) (by decide +kernel)
theorem vw_RL_65 : VW RL 65 RX5 yX5_stock (.code yX5_stock cX5_stock 4 (some .int)) 2 := ⟨good_V tw_1049 tw_1050 tw_1051 tw_60 tw_1048, by decide +kernel⟩
theorem tw_1053 : Cond.code yX6_stock cX6_stock 4 (some .int) ∈ TBL := tbl_5 (i := 68) (by decide +kernel) (by decide +kernel)
theorem tw_1054 : Cond.methodLink RL 68 yX6_stock ∈ TBL := tbl_5 (i := 65) (by decide +kernel) (by decide +kernel)
theorem tw_1055 : Cond.instanceMethod yX6_stock ∈ TBL := tbl_5 (i := 66) (by decide +kernel) (by decide +kernel)
theorem tw_1056 : Cond.selects RX6 yX6_stock yX6_stock ∈ TBL := tbl_5 (i := 67) (by decide +kernel) (by decide +kernel)
theorem vw_RL_68 : VW RL 68 RX6 yX6_stock (.code yX6_stock cX6_stock 4 (some .int)) 2 := ⟨good_V tw_1054 tw_1055 tw_1056 tw_618 tw_1053, by decide +kernel⟩
theorem tw_1058 : Cond.code yX5_redeem cX5_redeem 2 (some .int) ∈ TBL := tbl_2 (i := 183) (by decide +kernel) (by decide +kernel)
theorem tw_1059 : Cond.methodLink RL 69 yX5_redeem ∈ TBL := tbl_2 (i := 180) (by decide +kernel) (by decide +kernel)
theorem tw_1060 : Cond.instanceMethod yX5_redeem ∈ TBL := tbl_2 (i := 181) (by decide +kernel) (by decide +kernel)
theorem tw_1061 : Cond.selects RX5 yX5_redeem yX5_redeem ∈ TBL := tbl_2 (i := 182) (by decide +kernel) (by decide +kernel)
theorem vw_RL_69 : VW RL 69 RX5 yX5_redeem (.code yX5_redeem cX5_redeem 2 (some .int)) 1 := ⟨good_V tw_1059 tw_1060 tw_1061 tw_60 tw_1058, by decide +kernel⟩
theorem tw_1063 : Cond.code yX6_redeem cX6_redeem 2 (some .int) ∈ TBL := tbl_5 (i := 73) (by decide +kernel) (by decide +kernel)
theorem tw_1064 : Cond.methodLink RL 72 yX6_redeem ∈ TBL := tbl_5 (i := 70) (by decide +kernel) (by decide +kernel)
theorem tw_1065 : Cond.instanceMethod yX6_redeem ∈ TBL := tbl_5 (i := 71) (by decide +kernel) (by decide +kernel)
theorem tw_1066 : Cond.selects RX6 yX6_redeem yX6_redeem ∈ TBL := tbl_5 (i := 72) (by decide +kernel) (by decide +kernel)
theorem vw_RL_72 : VW RL 72 RX6 yX6_redeem (.code yX6_redeem cX6_redeem 2 (some .int)) 1 := ⟨good_V tw_1064 tw_1065 tw_1066 tw_618 tw_1063, by decide +kernel⟩
theorem tw_1068 : Cond.code yX5_pawn cX5_pawn 4 (some .int) ∈ TBL := tbl_2 (i := 208) (by decide +kernel) (by decide +kernel)
theorem tw_1069 : Cond.methodLink RL 73 yX5_pawn ∈ TBL := tbl_2 (i := 205) (by decide +kernel) (by decide +kernel)
theorem tw_1070 : Cond.instanceMethod yX5_pawn ∈ TBL := tbl_2 (i := 206) (by decide +kernel) (by decide +kernel)
theorem tw_1071 : Cond.selects RX5 yX5_pawn yX5_pawn ∈ TBL := tbl_2 (i := 207) (by decide +kernel) (by decide +kernel)
theorem vw_RL_73 : VW RL 73 RX5 yX5_pawn (.code yX5_pawn cX5_pawn 4 (some .int)) 3 := ⟨good_V tw_1069 tw_1070 tw_1071 tw_60 tw_1068, by decide +kernel⟩
theorem tw_1073 : Cond.code yX6_pawn cX6_pawn 4 (some .int) ∈ TBL := tbl_5 (i := 88) (by decide +kernel) (by decide +kernel)
theorem tw_1074 : Cond.methodLink RL 76 yX6_pawn ∈ TBL := tbl_5 (i := 85) (by decide +kernel) (by decide +kernel)
theorem tw_1075 : Cond.instanceMethod yX6_pawn ∈ TBL := tbl_5 (i := 86) (by decide +kernel) (by decide +kernel)
theorem tw_1076 : Cond.selects RX6 yX6_pawn yX6_pawn ∈ TBL := tbl_5 (i := 87) (by decide +kernel) (by decide +kernel)
theorem vw_RL_76 : VW RL 76 RX6 yX6_pawn (.code yX6_pawn cX6_pawn 4 (some .int)) 3 := ⟨good_V tw_1074 tw_1075 tw_1076 tw_618 tw_1073, by decide +kernel⟩
theorem tw_1078 : Cond.code yX5_week cX5_week 1 (some .int) ∈ TBL := tbl_2 (i := 221) (by decide +kernel) (by decide +kernel)
theorem tw_1079 : Cond.methodLink RL 77 yX5_week ∈ TBL := tbl_2 (i := 218) (by decide +kernel) (by decide +kernel)
theorem tw_1080 : Cond.instanceMethod yX5_week ∈ TBL := tbl_2 (i := 219) (by decide +kernel) (by decide +kernel)
theorem tw_1081 : Cond.selects RX5 yX5_week yX5_week ∈ TBL := tbl_2 (i := 220) (by decide +kernel) (by decide +kernel)
theorem vw_RL_77 : VW RL 77 RX5 yX5_week (.code yX5_week cX5_week 1 (some .int)) 0 := ⟨good_V tw_1079 tw_1080 tw_1081 tw_60 tw_1078, by decide +kernel⟩
theorem tw_1083 : Cond.code yX6_week cX6_week 1 (some .int) ∈ TBL := tbl_5 (i := 100) (by decide +kernel) (by decide +kernel)
theorem tw_1084 : Cond.methodLink RL 81 yX6_week ∈ TBL := tbl_5 (i := 97) (by decide +kernel) (by decide +kernel)
theorem tw_1085 : Cond.instanceMethod yX6_week ∈ TBL := tbl_5 (i := 98) (by decide +kernel) (by decide +kernel)
theorem tw_1086 : Cond.selects RX6 yX6_week yX6_week ∈ TBL := tbl_5 (i := 99) (by decide +kernel) (by decide +kernel)
theorem vw_RL_81 : VW RL 81 RX6 yX6_week (.code yX6_week cX6_week 1 (some .int)) 0 := ⟨good_V tw_1084 tw_1085 tw_1086 tw_618 tw_1083, by decide +kernel⟩
theorem tw_1088 : Cond.code yX5_give cX5_give 3 (some .int) ∈ TBL := tbl_3 (i := 2) (by decide +kernel) (by decide +kernel)
theorem tw_1089 : Cond.methodLink RL 82 yX5_give ∈ TBL := tbl_2 (i := 239) (by decide +kernel) (by decide +kernel)
theorem tw_1090 : Cond.instanceMethod yX5_give ∈ TBL := tbl_3 (i := 0) (by decide +kernel) (by decide +kernel)
theorem tw_1091 : Cond.selects RX5 yX5_give yX5_give ∈ TBL := tbl_3 (i := 1) (by decide +kernel) (by decide +kernel)
theorem vw_RL_82 : VW RL 82 RX5 yX5_give (.code yX5_give cX5_give 3 (some .int)) 2 := ⟨good_V tw_1089 tw_1090 tw_1091 tw_60 tw_1088, by decide +kernel⟩
theorem tw_1093 : Cond.code yX6_give cX6_give 3 (some .int) ∈ TBL := tbl_5 (i := 116) (by decide +kernel) (by decide +kernel)
theorem tw_1094 : Cond.methodLink RL 85 yX6_give ∈ TBL := tbl_5 (i := 113) (by decide +kernel) (by decide +kernel)
theorem tw_1095 : Cond.instanceMethod yX6_give ∈ TBL := tbl_5 (i := 114) (by decide +kernel) (by decide +kernel)
theorem tw_1096 : Cond.selects RX6 yX6_give yX6_give ∈ TBL := tbl_5 (i := 115) (by decide +kernel) (by decide +kernel)
theorem vw_RL_85 : VW RL 85 RX6 yX6_give (.code yX6_give cX6_give 3 (some .int)) 2 := ⟨good_V tw_1094 tw_1095 tw_1096 tw_618 tw_1093, by decide +kernel⟩
theorem tw_1098 : Cond.code yX5_undo cX5_undo 4 (some .int) ∈ TBL := tbl_3 (i := 10) (by decide +kernel) (by decide +kernel)
theorem tw_1099 : Cond.methodLink RL 86 yX5_undo ∈ TBL := tbl_3 (i := 7) (by decide +kernel) (by decide +kernel)
theorem tw_1100 : Cond.instanceMethod yX5_undo ∈ TBL := tbl_3 (i := 8) (by decide +kernel) (by decide +kernel)
theorem tw_1101 : Cond.selects RX5 yX5_undo yX5_undo ∈ TBL := tbl_3 (i := 9) (by decide +kernel) (by decide +kernel)
theorem vw_RL_86 : VW RL 86 RX5 yX5_undo (.code yX5_undo cX5_undo 4 (some .int)) 1 := ⟨good_V tw_1099 tw_1100 tw_1101 tw_60 tw_1098, by decide +kernel⟩
theorem tw_1103 : Cond.code yX6_undo cX6_undo 4 (some .int) ∈ TBL := tbl_5 (i := 125) (by decide +kernel) (by decide +kernel)
theorem tw_1104 : Cond.methodLink RL 89 yX6_undo ∈ TBL := tbl_5 (i := 122) (by decide +kernel) (by decide +kernel)
theorem tw_1105 : Cond.instanceMethod yX6_undo ∈ TBL := tbl_5 (i := 123) (by decide +kernel) (by decide +kernel)
theorem tw_1106 : Cond.selects RX6 yX6_undo yX6_undo ∈ TBL := tbl_5 (i := 124) (by decide +kernel) (by decide +kernel)
theorem vw_RL_89 : VW RL 89 RX6 yX6_undo (.code yX6_undo cX6_undo 4 (some .int)) 1 := ⟨good_V tw_1104 tw_1105 tw_1106 tw_618 tw_1103, by decide +kernel⟩
theorem tw_1108 : Cond.code yX5_keep cX5_keep 2 (some .int) ∈ TBL := tbl_3 (i := 42) (by decide +kernel) (by decide +kernel)
theorem tw_1109 : Cond.methodLink RL 90 yX5_keep ∈ TBL := tbl_3 (i := 39) (by decide +kernel) (by decide +kernel)
theorem tw_1110 : Cond.instanceMethod yX5_keep ∈ TBL := tbl_3 (i := 40) (by decide +kernel) (by decide +kernel)
theorem tw_1111 : Cond.selects RX5 yX5_keep yX5_keep ∈ TBL := tbl_3 (i := 41) (by decide +kernel) (by decide +kernel)
theorem vw_RL_90 : VW RL 90 RX5 yX5_keep (.code yX5_keep cX5_keep 2 (some .int)) 1 := ⟨good_V tw_1109 tw_1110 tw_1111 tw_60 tw_1108, by decide +kernel⟩
theorem tw_1113 : Cond.code yX6_keep cX6_keep 2 (some .int) ∈ TBL := tbl_5 (i := 129) (by decide +kernel) (by decide +kernel)
theorem tw_1114 : Cond.methodLink RL 93 yX6_keep ∈ TBL := tbl_5 (i := 126) (by decide +kernel) (by decide +kernel)
theorem tw_1115 : Cond.instanceMethod yX6_keep ∈ TBL := tbl_5 (i := 127) (by decide +kernel) (by decide +kernel)
theorem tw_1116 : Cond.selects RX6 yX6_keep yX6_keep ∈ TBL := tbl_5 (i := 128) (by decide +kernel) (by decide +kernel)
theorem vw_RL_93 : VW RL 93 RX6 yX6_keep (.code yX6_keep cX6_keep 2 (some .int)) 1 := ⟨good_V tw_1114 tw_1115 tw_1116 tw_618 tw_1113, by decide +kernel⟩
theorem tw_1118 : Cond.code yX5_on cX5_on 2 (some .int) ∈ TBL := tbl_3 (i := 46) (by decide +kernel) (by decide +kernel)
theorem tw_1119 : Cond.methodLink RL 94 yX5_on ∈ TBL := tbl_3 (i := 43) (by decide +kernel) (by decide +kernel)
theorem tw_1120 : Cond.instanceMethod yX5_on ∈ TBL := tbl_3 (i := 44) (by decide +kernel) (by decide +kernel)
theorem tw_1121 : Cond.selects RX5 yX5_on yX5_on ∈ TBL := tbl_3 (i := 45) (by decide +kernel) (by decide +kernel)
theorem vw_RL_94 : VW RL 94 RX5 yX5_on (.code yX5_on cX5_on 2 (some .int)) 1 := ⟨good_V tw_1119 tw_1120 tw_1121 tw_60 tw_1118, by decide +kernel⟩
theorem tw_1123 : Cond.code yX6_on cX6_on 2 (some .int) ∈ TBL := tbl_5 (i := 138) (by decide +kernel) (by decide +kernel)
theorem tw_1124 : Cond.methodLink RL 97 yX6_on ∈ TBL := tbl_5 (i := 135) (by decide +kernel) (by decide +kernel)
theorem tw_1125 : Cond.instanceMethod yX6_on ∈ TBL := tbl_5 (i := 136) (by decide +kernel) (by decide +kernel)
theorem tw_1126 : Cond.selects RX6 yX6_on yX6_on ∈ TBL := tbl_5 (i := 137) (by decide +kernel) (by decide +kernel)
theorem vw_RL_97 : VW RL 97 RX6 yX6_on (.code yX6_on cX6_on 2 (some .int)) 1 := ⟨good_V tw_1124 tw_1125 tw_1126 tw_618 tw_1123, by decide +kernel⟩
theorem tw_1128 : Cond.code yX5_deep cX5_deep 4 (some .int) ∈ TBL := tbl_3 (i := 50) (by decide +kernel) (by decide +kernel)
theorem tw_1129 : Cond.methodLink RL 98 yX5_deep ∈ TBL := tbl_3 (i := 47) (by decide +kernel) (by decide +kernel)
theorem tw_1130 : Cond.instanceMethod yX5_deep ∈ TBL := tbl_3 (i := 48) (by decide +kernel) (by decide +kernel)
theorem tw_1131 : Cond.selects RX5 yX5_deep yX5_deep ∈ TBL := tbl_3 (i := 49) (by decide +kernel) (by decide +kernel)
theorem vw_RL_98 : VW RL 98 RX5 yX5_deep (.code yX5_deep cX5_deep 4 (some .int)) 1 := ⟨good_V tw_1129 tw_1130 tw_1131 tw_60 tw_1128, by decide +kernel⟩
theorem tw_1133 : Cond.code yX6_deep cX6_deep 4 (some .int) ∈ TBL := tbl_5 (i := 142) (by decide +kernel) (by decide +kernel)
theorem tw_1134 : Cond.methodLink RL 101 yX6_deep ∈ TBL := tbl_5 (i := 139) (by decide +kernel) (by decide +kernel)
theorem tw_1135 : Cond.instanceMethod yX6_deep ∈ TBL := tbl_5 (i := 140) (by decide +kernel) (by decide +kernel)
theorem tw_1136 : Cond.selects RX6 yX6_deep yX6_deep ∈ TBL := tbl_5 (i := 141) (by decide +kernel) (by decide +kernel)
theorem vw_RL_101 : VW RL 101 RX6 yX6_deep (.code yX6_deep cX6_deep 4 (some .int)) 1 := ⟨good_V tw_1134 tw_1135 tw_1136 tw_618 tw_1133, by decide +kernel⟩
theorem tw_1138 : Cond.code yX5_inside cX5_inside 2 (some .int) ∈ TBL := tbl_3 (i := 55) (by decide +kernel) (by decide +kernel)
theorem tw_1139 : Cond.methodLink RL 102 yX5_inside ∈ TBL := tbl_3 (i := 52) (by decide +kernel) (by decide +kernel)
theorem tw_1140 : Cond.instanceMethod yX5_inside ∈ TBL := tbl_3 (i := 53) (by decide +kernel) (by decide +kernel)
theorem tw_1141 : Cond.selects RX5 yX5_inside yX5_inside ∈ TBL := tbl_3 (i := 54) (by decide +kernel) (by decide +kernel)
theorem vw_RL_102 : VW RL 102 RX5 yX5_inside (.code yX5_inside cX5_inside 2 (some .int)) 1 := ⟨good_V tw_1139 tw_1140 tw_1141 tw_60 tw_1138, by decide +kernel⟩
theorem tw_1143 : Cond.code yX6_inside cX6_inside 2 (some .int) ∈ TBL := tbl_5 (i := 146) (by decide +kernel) (by decide +kernel)
theorem tw_1144 : Cond.methodLink RL 105 yX6_inside ∈ TBL := tbl_5 (i := 143) (by decide +kernel) (by decide +kernel)
theorem tw_1145 : Cond.instanceMethod yX6_inside ∈ TBL := tbl_5 (i := 144) (by decide +kernel) (by decide +kernel)
theorem tw_1146 : Cond.selects RX6 yX6_inside yX6_inside ∈ TBL := tbl_5 (i := 145) (by decide +kernel) (by decide +kernel)
theorem vw_RL_105 : VW RL 105 RX6 yX6_inside (.code yX6_inside cX6_inside 2 (some .int)) 1 := ⟨good_V tw_1144 tw_1145 tw_1146 tw_618 tw_1143, by decide +kernel⟩
theorem tw_1148 : Cond.code yX5_rings cX5_rings 5 (some .int) ∈ TBL := tbl_3 (i := 68) (by decide +kernel) (by decide +kernel)
theorem tw_1149 : Cond.methodLink RL 106 yX5_rings ∈ TBL := tbl_3 (i := 65) (by decide +kernel) (by decide +kernel)
theorem tw_1150 : Cond.instanceMethod yX5_rings ∈ TBL := tbl_3 (i := 66) (by decide +kernel) (by decide +kernel)
theorem tw_1151 : Cond.selects RX5 yX5_rings yX5_rings ∈ TBL := tbl_3 (i := 67) (by decide +kernel) (by decide +kernel)
theorem vw_RL_106 : VW RL 106 RX5 yX5_rings (.code yX5_rings cX5_rings 5 (some .int)) 0 := ⟨good_V tw_1149 tw_1150 tw_1151 tw_60 tw_1148, by decide +kernel⟩
theorem tw_1153 : Cond.code yX6_rings cX6_rings 4 (some .int) ∈ TBL := tbl_5 (i := 154) (by decide +kernel) (by decide +kernel)
theorem tw_1154 : Cond.methodLink RL 109 yX6_rings ∈ TBL := tbl_5 (i := 151) (by decide +kernel) (by decide +kernel)
theorem tw_1155 : Cond.instanceMethod yX6_rings ∈ TBL := tbl_5 (i := 152) (by decide +kernel) (by decide +kernel)
theorem tw_1156 : Cond.selects RX6 yX6_rings yX6_rings ∈ TBL := tbl_5 (i := 153) (by decide +kernel) (by decide +kernel)
theorem vw_RL_109 : VW RL 109 RX6 yX6_rings (.code yX6_rings cX6_rings 4 (some .int)) 0 := ⟨good_V tw_1154 tw_1155 tw_1156 tw_618 tw_1153, by decide +kernel⟩
theorem tw_1158 : Cond.code yX5_goods cX5_goods 2 (some .int) ∈ TBL := tbl_3 (i := 80) (by decide +kernel) (by decide +kernel)
theorem tw_1159 : Cond.methodLink RL 110 yX5_goods ∈ TBL := tbl_3 (i := 77) (by decide +kernel) (by decide +kernel)
theorem tw_1160 : Cond.instanceMethod yX5_goods ∈ TBL := tbl_3 (i := 78) (by decide +kernel) (by decide +kernel)
theorem tw_1161 : Cond.selects RX5 yX5_goods yX5_goods ∈ TBL := tbl_3 (i := 79) (by decide +kernel) (by decide +kernel)
theorem vw_RL_110 : VW RL 110 RX5 yX5_goods (.code yX5_goods cX5_goods 2 (some .int)) 1 := ⟨good_V tw_1159 tw_1160 tw_1161 tw_60 tw_1158, by decide +kernel⟩
theorem tw_1163 : Cond.code yX6_goods cX6_goods 5 (some .int) ∈ TBL := tbl_5 (i := 162) (by decide +kernel) (by decide +kernel)
theorem tw_1164 : Cond.methodLink RL 113 yX6_goods ∈ TBL := tbl_5 (i := 159) (by decide +kernel) (by decide +kernel)
theorem tw_1165 : Cond.instanceMethod yX6_goods ∈ TBL := tbl_5 (i := 160) (by decide +kernel) (by decide +kernel)
theorem tw_1166 : Cond.selects RX6 yX6_goods yX6_goods ∈ TBL := tbl_5 (i := 161) (by decide +kernel) (by decide +kernel)
theorem vw_RL_113 : VW RL 113 RX6 yX6_goods (.code yX6_goods cX6_goods 5 (some .int)) 1 := ⟨good_V tw_1164 tw_1165 tw_1166 tw_618 tw_1163, by decide +kernel⟩
theorem tw_1168 : Cond.code yX5_hangs cX5_hangs 5 (some .int) ∈ TBL := tbl_3 (i := 88) (by decide +kernel) (by decide +kernel)
theorem tw_1169 : Cond.methodLink RL 114 yX5_hangs ∈ TBL := tbl_3 (i := 85) (by decide +kernel) (by decide +kernel)
theorem tw_1170 : Cond.instanceMethod yX5_hangs ∈ TBL := tbl_3 (i := 86) (by decide +kernel) (by decide +kernel)
theorem tw_1171 : Cond.selects RX5 yX5_hangs yX5_hangs ∈ TBL := tbl_3 (i := 87) (by decide +kernel) (by decide +kernel)
theorem vw_RL_114 : VW RL 114 RX5 yX5_hangs (.code yX5_hangs cX5_hangs 5 (some .int)) 0 := ⟨good_V tw_1169 tw_1170 tw_1171 tw_60 tw_1168, by decide +kernel⟩
theorem tw_1173 : Cond.code yX6_hangs cX6_hangs 4 (some .int) ∈ TBL := tbl_5 (i := 166) (by decide +kernel) (by decide +kernel)
theorem tw_1174 : Cond.methodLink RL 117 yX6_hangs ∈ TBL := tbl_5 (i := 163) (by decide +kernel) (by decide +kernel)
theorem tw_1175 : Cond.instanceMethod yX6_hangs ∈ TBL := tbl_5 (i := 164) (by decide +kernel) (by decide +kernel)
theorem tw_1176 : Cond.selects RX6 yX6_hangs yX6_hangs ∈ TBL := tbl_5 (i := 165) (by decide +kernel) (by decide +kernel)
theorem vw_RL_117 : VW RL 117 RX6 yX6_hangs (.code yX6_hangs cX6_hangs 4 (some .int)) 0 := ⟨good_V tw_1174 tw_1175 tw_1176 tw_618 tw_1173, by decide +kernel⟩
theorem tw_1178 : Cond.code yX5_worth cX5_worth 3 (some .int) ∈ TBL := tbl_3 (i := 92) (by decide +kernel) (by decide +kernel)
theorem tw_1179 : Cond.methodLink RL 118 yX5_worth ∈ TBL := tbl_3 (i := 89) (by decide +kernel) (by decide +kernel)
theorem tw_1180 : Cond.instanceMethod yX5_worth ∈ TBL := tbl_3 (i := 90) (by decide +kernel) (by decide +kernel)
theorem tw_1181 : Cond.selects RX5 yX5_worth yX5_worth ∈ TBL := tbl_3 (i := 91) (by decide +kernel) (by decide +kernel)
theorem vw_RL_118 : VW RL 118 RX5 yX5_worth (.code yX5_worth cX5_worth 3 (some .int)) 1 := ⟨good_V tw_1179 tw_1180 tw_1181 tw_60 tw_1178, by decide +kernel⟩
theorem tw_1183 : Cond.code yX6_worth cX6_worth 2 (some .int) ∈ TBL := tbl_5 (i := 170) (by decide +kernel) (by decide +kernel)
theorem tw_1184 : Cond.methodLink RL 121 yX6_worth ∈ TBL := tbl_5 (i := 167) (by decide +kernel) (by decide +kernel)
theorem tw_1185 : Cond.instanceMethod yX6_worth ∈ TBL := tbl_5 (i := 168) (by decide +kernel) (by decide +kernel)
theorem tw_1186 : Cond.selects RX6 yX6_worth yX6_worth ∈ TBL := tbl_5 (i := 169) (by decide +kernel) (by decide +kernel)
theorem vw_RL_121 : VW RL 121 RX6 yX6_worth (.code yX6_worth cX6_worth 2 (some .int)) 1 := ⟨good_V tw_1184 tw_1185 tw_1186 tw_618 tw_1183, by decide +kernel⟩
theorem tw_1188 : Cond.code yX5_chalk cX5_chalk 3 (some .int) ∈ TBL := tbl_3 (i := 96) (by decide +kernel) (by decide +kernel)
theorem tw_1189 : Cond.methodLink RL 122 yX5_chalk ∈ TBL := tbl_3 (i := 93) (by decide +kernel) (by decide +kernel)
theorem tw_1190 : Cond.instanceMethod yX5_chalk ∈ TBL := tbl_3 (i := 94) (by decide +kernel) (by decide +kernel)
theorem tw_1191 : Cond.selects RX5 yX5_chalk yX5_chalk ∈ TBL := tbl_3 (i := 95) (by decide +kernel) (by decide +kernel)
theorem vw_RL_122 : VW RL 122 RX5 yX5_chalk (.code yX5_chalk cX5_chalk 3 (some .int)) 2 := ⟨good_V tw_1189 tw_1190 tw_1191 tw_60 tw_1188, by decide +kernel⟩
theorem tw_1193 : Cond.code yX6_chalk cX6_chalk 5 (some .int) ∈ TBL := tbl_5 (i := 174) (by decide +kernel) (by decide +kernel)
theorem tw_1194 : Cond.methodLink RL 125 yX6_chalk ∈ TBL := tbl_5 (i := 171) (by decide +kernel) (by decide +kernel)
theorem tw_1195 : Cond.instanceMethod yX6_chalk ∈ TBL := tbl_5 (i := 172) (by decide +kernel) (by decide +kernel)
theorem tw_1196 : Cond.selects RX6 yX6_chalk yX6_chalk ∈ TBL := tbl_5 (i := 173) (by decide +kernel) (by decide +kernel)
theorem vw_RL_125 : VW RL 125 RX6 yX6_chalk (.code yX6_chalk cX6_chalk 5 (some .int)) 2 := ⟨good_V tw_1194 tw_1195 tw_1196 tw_618 tw_1193, by decide +kernel⟩
theorem tw_1198 : Cond.code yX5_can cX5_can 1 (some .int) ∈ TBL := tbl_3 (i := 103) (by decide +kernel) (by decide +kernel)
theorem tw_1199 : Cond.methodLink RL 126 yX5_can ∈ TBL := tbl_3 (i := 100) (by decide +kernel) (by decide +kernel)
theorem tw_1200 : Cond.instanceMethod yX5_can ∈ TBL := tbl_3 (i := 101) (by decide +kernel) (by decide +kernel)
theorem tw_1201 : Cond.selects RX5 yX5_can yX5_can ∈ TBL := tbl_3 (i := 102) (by decide +kernel) (by decide +kernel)
theorem vw_RL_126 : VW RL 126 RX5 yX5_can (.code yX5_can cX5_can 1 (some .int)) 0 := ⟨good_V tw_1199 tw_1200 tw_1201 tw_60 tw_1198, by decide +kernel⟩
theorem tw_1203 : Cond.code yX6_can cX6_can 1 (some .int) ∈ TBL := tbl_5 (i := 178) (by decide +kernel) (by decide +kernel)
theorem tw_1204 : Cond.methodLink RL 129 yX6_can ∈ TBL := tbl_5 (i := 175) (by decide +kernel) (by decide +kernel)
theorem tw_1205 : Cond.instanceMethod yX6_can ∈ TBL := tbl_5 (i := 176) (by decide +kernel) (by decide +kernel)
theorem tw_1206 : Cond.selects RX6 yX6_can yX6_can ∈ TBL := tbl_5 (i := 177) (by decide +kernel) (by decide +kernel)
theorem vw_RL_129 : VW RL 129 RX6 yX6_can (.code yX6_can cX6_can 1 (some .int)) 0 := ⟨good_V tw_1204 tw_1205 tw_1206 tw_618 tw_1203, by decide +kernel⟩
theorem tw_1208 : Cond.code yX5_order cX5_order 2 (some .int) ∈ TBL := tbl_3 (i := 107) (by decide +kernel) (by decide +kernel)
theorem tw_1209 : Cond.methodLink RL 130 yX5_order ∈ TBL := tbl_3 (i := 104) (by decide +kernel) (by decide +kernel)
theorem tw_1210 : Cond.instanceMethod yX5_order ∈ TBL := tbl_3 (i := 105) (by decide +kernel) (by decide +kernel)
theorem tw_1211 : Cond.selects RX5 yX5_order yX5_order ∈ TBL := tbl_3 (i := 106) (by decide +kernel) (by decide +kernel)
theorem vw_RL_130 : VW RL 130 RX5 yX5_order (.code yX5_order cX5_order 2 (some .int)) 1 := ⟨good_V tw_1209 tw_1210 tw_1211 tw_60 tw_1208, by decide +kernel⟩
theorem tw_1213 : Cond.code yX6_order cX6_order 6 (some .int) ∈ TBL := tbl_5 (i := 182) (by decide +kernel) (by decide +kernel)
theorem tw_1214 : Cond.methodLink RL 133 yX6_order ∈ TBL := tbl_5 (i := 179) (by decide +kernel) (by decide +kernel)
theorem tw_1215 : Cond.instanceMethod yX6_order ∈ TBL := tbl_5 (i := 180) (by decide +kernel) (by decide +kernel)
theorem tw_1216 : Cond.selects RX6 yX6_order yX6_order ∈ TBL := tbl_5 (i := 181) (by decide +kernel) (by decide +kernel)
theorem vw_RL_133 : VW RL 133 RX6 yX6_order (.code yX6_order cX6_order 6 (some .int)) 1 := ⟨good_V tw_1214 tw_1215 tw_1216 tw_618 tw_1213, by decide +kernel⟩
theorem tw_1218 : Cond.code yX5_ways cX5_ways 1 (some .int) ∈ TBL := tbl_3 (i := 136) (by decide +kernel) (by decide +kernel)
theorem tw_1219 : Cond.methodLink RL 134 yX5_ways ∈ TBL := tbl_3 (i := 133) (by decide +kernel) (by decide +kernel)
theorem tw_1220 : Cond.instanceMethod yX5_ways ∈ TBL := tbl_3 (i := 134) (by decide +kernel) (by decide +kernel)
theorem tw_1221 : Cond.selects RX5 yX5_ways yX5_ways ∈ TBL := tbl_3 (i := 135) (by decide +kernel) (by decide +kernel)
theorem vw_RL_134 : VW RL 134 RX5 yX5_ways (.code yX5_ways cX5_ways 1 (some .int)) 0 := ⟨good_V tw_1219 tw_1220 tw_1221 tw_60 tw_1218, by decide +kernel⟩
theorem tw_1223 : Cond.code yX6_ways cX6_ways 1 (some .int) ∈ TBL := tbl_5 (i := 202) (by decide +kernel) (by decide +kernel)
theorem tw_1224 : Cond.methodLink RL 137 yX6_ways ∈ TBL := tbl_5 (i := 199) (by decide +kernel) (by decide +kernel)
theorem tw_1225 : Cond.instanceMethod yX6_ways ∈ TBL := tbl_5 (i := 200) (by decide +kernel) (by decide +kernel)
theorem tw_1226 : Cond.selects RX6 yX6_ways yX6_ways ∈ TBL := tbl_5 (i := 201) (by decide +kernel) (by decide +kernel)
theorem vw_RL_137 : VW RL 137 RX6 yX6_ways (.code yX6_ways cX6_ways 1 (some .int)) 0 := ⟨good_V tw_1224 tw_1225 tw_1226 tw_618 tw_1223, by decide +kernel⟩
theorem tw_1228 : Cond.code yX5_most cX5_most 1 (some .int) ∈ TBL := tbl_3 (i := 159) (by decide +kernel) (by decide +kernel)
theorem tw_1229 : Cond.methodLink RL 138 yX5_most ∈ TBL := tbl_3 (i := 156) (by decide +kernel) (by decide +kernel)
theorem tw_1230 : Cond.instanceMethod yX5_most ∈ TBL := tbl_3 (i := 157) (by decide +kernel) (by decide +kernel)
theorem tw_1231 : Cond.selects RX5 yX5_most yX5_most ∈ TBL := tbl_3 (i := 158) (by decide +kernel) (by decide +kernel)
theorem vw_RL_138 : VW RL 138 RX5 yX5_most (.code yX5_most cX5_most 1 (some .int)) 0 := ⟨good_V tw_1229 tw_1230 tw_1231 tw_60 tw_1228, by decide +kernel⟩
theorem tw_1233 : Cond.code yX6_most cX6_most 2 (some .int) ∈ TBL := tbl_5 (i := 214) (by decide +kernel) (by decide +kernel)
theorem tw_1234 : Cond.methodLink RL 141 yX6_most ∈ TBL := tbl_5 (i := 211) (by decide +kernel) (by decide +kernel)
theorem tw_1235 : Cond.instanceMethod yX6_most ∈ TBL := tbl_5 (i := 212) (by decide +kernel) (by decide +kernel)
theorem tw_1236 : Cond.selects RX6 yX6_most yX6_most ∈ TBL := tbl_5 (i := 213) (by decide +kernel) (by decide +kernel)
theorem vw_RL_141 : VW RL 141 RX6 yX6_most (.code yX6_most cX6_most 2 (some .int)) 0 := ⟨good_V tw_1234 tw_1235 tw_1236 tw_618 tw_1233, by decide +kernel⟩
theorem tw_1238 : Cond.code yX5_least cX5_least 5 (some .int) ∈ TBL := tbl_3 (i := 168) (by decide +kernel) (by decide +kernel)
theorem tw_1239 : Cond.methodLink RL 142 yX5_least ∈ TBL := tbl_3 (i := 165) (by decide +kernel) (by decide +kernel)
theorem tw_1240 : Cond.instanceMethod yX5_least ∈ TBL := tbl_3 (i := 166) (by decide +kernel) (by decide +kernel)
theorem tw_1241 : Cond.selects RX5 yX5_least yX5_least ∈ TBL := tbl_3 (i := 167) (by decide +kernel) (by decide +kernel)
theorem vw_RL_142 : VW RL 142 RX5 yX5_least (.code yX5_least cX5_least 5 (some .int)) 0 := ⟨good_V tw_1239 tw_1240 tw_1241 tw_60 tw_1238, by decide +kernel⟩
theorem tw_1243 : Cond.code yX6_least cX6_least 4 (some .int) ∈ TBL := tbl_5 (i := 218) (by decide +kernel) (by decide +kernel)
theorem tw_1244 : Cond.methodLink RL 145 yX6_least ∈ TBL := tbl_5 (i := 215) (by decide +kernel) (by decide +kernel)
theorem tw_1245 : Cond.instanceMethod yX6_least ∈ TBL := tbl_5 (i := 216) (by decide +kernel) (by decide +kernel)
theorem tw_1246 : Cond.selects RX6 yX6_least yX6_least ∈ TBL := tbl_5 (i := 217) (by decide +kernel) (by decide +kernel)
theorem vw_RL_145 : VW RL 145 RX6 yX6_least (.code yX6_least cX6_least 4 (some .int)) 0 := ⟨good_V tw_1244 tw_1245 tw_1246 tw_618 tw_1243, by decide +kernel⟩
theorem tw_1248 : Cond.code yX5_free cX5_free 3 (some .int) ∈ TBL := tbl_3 (i := 181) (by decide +kernel) (by decide +kernel)
theorem tw_1249 : Cond.methodLink RL 146 yX5_free ∈ TBL := tbl_3 (i := 178) (by decide +kernel) (by decide +kernel)
theorem tw_1250 : Cond.instanceMethod yX5_free ∈ TBL := tbl_3 (i := 179) (by decide +kernel) (by decide +kernel)
theorem tw_1251 : Cond.selects RX5 yX5_free yX5_free ∈ TBL := tbl_3 (i := 180) (by decide +kernel) (by decide +kernel)
theorem vw_RL_146 : VW RL 146 RX5 yX5_free (.code yX5_free cX5_free 3 (some .int)) 2 := ⟨good_V tw_1249 tw_1250 tw_1251 tw_60 tw_1248, by decide +kernel⟩
theorem tw_1253 : Cond.code yX6_free cX6_free 7 (some .int) ∈ TBL := tbl_5 (i := 226) (by decide +kernel) (by decide +kernel)
theorem tw_1254 : Cond.methodLink RL 149 yX6_free ∈ TBL := tbl_5 (i := 223) (by decide +kernel) (by decide +kernel)
theorem tw_1255 : Cond.instanceMethod yX6_free ∈ TBL := tbl_5 (i := 224) (by decide +kernel) (by decide +kernel)
theorem tw_1256 : Cond.selects RX6 yX6_free yX6_free ∈ TBL := tbl_5 (i := 225) (by decide +kernel) (by decide +kernel)
theorem vw_RL_149 : VW RL 149 RX6 yX6_free (.code yX6_free cX6_free 7 (some .int)) 2 := ⟨good_V tw_1254 tw_1255 tw_1256 tw_618 tw_1253, by decide +kernel⟩
theorem tw_1258 : Cond.code yX5_till cX5_till 2 (some .int) ∈ TBL := tbl_3 (i := 185) (by decide +kernel) (by decide +kernel)
theorem tw_1259 : Cond.methodLink RL 150 yX5_till ∈ TBL := tbl_3 (i := 182) (by decide +kernel) (by decide +kernel)
theorem tw_1260 : Cond.instanceMethod yX5_till ∈ TBL := tbl_3 (i := 183) (by decide +kernel) (by decide +kernel)
theorem tw_1261 : Cond.selects RX5 yX5_till yX5_till ∈ TBL := tbl_3 (i := 184) (by decide +kernel) (by decide +kernel)
theorem vw_RL_150 : VW RL 150 RX5 yX5_till (.code yX5_till cX5_till 2 (some .int)) 0 := ⟨good_V tw_1259 tw_1260 tw_1261 tw_60 tw_1258, by decide +kernel⟩
theorem tw_1263 : Cond.code yX6_till cX6_till 2 (some .int) ∈ TBL := tbl_5 (i := 230) (by decide +kernel) (by decide +kernel)
theorem tw_1264 : Cond.methodLink RL 153 yX6_till ∈ TBL := tbl_5 (i := 227) (by decide +kernel) (by decide +kernel)
theorem tw_1265 : Cond.instanceMethod yX6_till ∈ TBL := tbl_5 (i := 228) (by decide +kernel) (by decide +kernel)
theorem tw_1266 : Cond.selects RX6 yX6_till yX6_till ∈ TBL := tbl_5 (i := 229) (by decide +kernel) (by decide +kernel)
theorem vw_RL_153 : VW RL 153 RX6 yX6_till (.code yX6_till cX6_till 2 (some .int)) 0 := ⟨good_V tw_1264 tw_1265 tw_1266 tw_618 tw_1263, by decide +kernel⟩
theorem tw_1268 : Cond.code yX5_run cX5_run 7 (some .int) ∈ TBL := tbl_3 (i := 189) (by decide +kernel) (by decide +kernel)
theorem tw_1269 : Cond.methodLink RL 154 yX5_run ∈ TBL := tbl_3 (i := 186) (by decide +kernel) (by decide +kernel)
theorem tw_1270 : Cond.instanceMethod yX5_run ∈ TBL := tbl_3 (i := 187) (by decide +kernel) (by decide +kernel)
theorem tw_1271 : Cond.selects RX5 yX5_run yX5_run ∈ TBL := tbl_3 (i := 188) (by decide +kernel) (by decide +kernel)
theorem vw_RL_154 : VW RL 154 RX5 yX5_run (.code yX5_run cX5_run 7 (some .int)) 1 := ⟨good_V tw_1269 tw_1270 tw_1271 tw_60 tw_1268, by decide +kernel⟩
theorem tw_1273 : Cond.code yX6_run cX6_run 5 (some .int) ∈ TBL := tbl_5 (i := 234) (by decide +kernel) (by decide +kernel)
theorem tw_1274 : Cond.methodLink RL 157 yX6_run ∈ TBL := tbl_5 (i := 231) (by decide +kernel) (by decide +kernel)
theorem tw_1275 : Cond.instanceMethod yX6_run ∈ TBL := tbl_5 (i := 232) (by decide +kernel) (by decide +kernel)
theorem tw_1276 : Cond.selects RX6 yX6_run yX6_run ∈ TBL := tbl_5 (i := 233) (by decide +kernel) (by decide +kernel)
theorem vw_RL_157 : VW RL 157 RX6 yX6_run (.code yX6_run cX6_run 5 (some .int)) 1 := ⟨good_V tw_1274 tw_1275 tw_1276 tw_618 tw_1273, by decide +kernel⟩
theorem tw_1278 : Cond.code yX5_shuts cX5_shuts 2 (some .int) ∈ TBL := tbl_3 (i := 207) (by decide +kernel) (by decide +kernel)
theorem tw_1279 : Cond.methodLink RL 158 yX5_shuts ∈ TBL := tbl_3 (i := 204) (by decide +kernel) (by decide +kernel)
theorem tw_1280 : Cond.instanceMethod yX5_shuts ∈ TBL := tbl_3 (i := 205) (by decide +kernel) (by decide +kernel)
theorem tw_1281 : Cond.selects RX5 yX5_shuts yX5_shuts ∈ TBL := tbl_3 (i := 206) (by decide +kernel) (by decide +kernel)
theorem vw_RL_158 : VW RL 158 RX5 yX5_shuts (.code yX5_shuts cX5_shuts 2 (some .int)) 1 := ⟨good_V tw_1279 tw_1280 tw_1281 tw_60 tw_1278, by decide +kernel⟩
theorem tw_1283 : Cond.code yX6_shuts cX6_shuts 7 (some .int) ∈ TBL := tbl_6 (i := 2) (by decide +kernel) (by decide +kernel)
theorem tw_1284 : Cond.methodLink RL 161 yX6_shuts ∈ TBL := tbl_5 (i := 239) (by decide +kernel) (by decide +kernel)
theorem tw_1285 : Cond.instanceMethod yX6_shuts ∈ TBL := tbl_6 (i := 0) (by decide +kernel) (by decide +kernel)
theorem tw_1286 : Cond.selects RX6 yX6_shuts yX6_shuts ∈ TBL := tbl_6 (i := 1) (by decide +kernel) (by decide +kernel)
theorem vw_RL_161 : VW RL 161 RX6 yX6_shuts (.code yX6_shuts cX6_shuts 7 (some .int)) 1 := ⟨good_V tw_1284 tw_1285 tw_1286 tw_618 tw_1283, by decide +kernel⟩
theorem tw_1288 : Cond.code yX5_missing cX5_missing 7 (some .int) ∈ TBL := tbl_3 (i := 219) (by decide +kernel) (by decide +kernel)
theorem tw_1289 : Cond.methodLink RL 162 yX5_missing ∈ TBL := tbl_3 (i := 216) (by decide +kernel) (by decide +kernel)
theorem tw_1290 : Cond.instanceMethod yX5_missing ∈ TBL := tbl_3 (i := 217) (by decide +kernel) (by decide +kernel)
theorem tw_1291 : Cond.selects RX5 yX5_missing yX5_missing ∈ TBL := tbl_3 (i := 218) (by decide +kernel) (by decide +kernel)
theorem vw_RL_162 : VW RL 162 RX5 yX5_missing (.code yX5_missing cX5_missing 7 (some .int)) 1 := ⟨good_V tw_1289 tw_1290 tw_1291 tw_60 tw_1288, by decide +kernel⟩
theorem tw_1293 : Cond.code yX6_missing cX6_missing 8 (some .int) ∈ TBL := tbl_6 (i := 6) (by decide +kernel) (by decide +kernel)
theorem tw_1294 : Cond.methodLink RL 165 yX6_missing ∈ TBL := tbl_6 (i := 3) (by decide +kernel) (by decide +kernel)
theorem tw_1295 : Cond.instanceMethod yX6_missing ∈ TBL := tbl_6 (i := 4) (by decide +kernel) (by decide +kernel)
theorem tw_1296 : Cond.selects RX6 yX6_missing yX6_missing ∈ TBL := tbl_6 (i := 5) (by decide +kernel) (by decide +kernel)
theorem vw_RL_165 : VW RL 165 RX6 yX6_missing (.code yX6_missing cX6_missing 8 (some .int)) 1 := ⟨good_V tw_1294 tw_1295 tw_1296 tw_618 tw_1293, by decide +kernel⟩
theorem tw_1298 : Cond.code yX5_through cX5_through 5 (some .int) ∈ TBL := tbl_3 (i := 232) (by decide +kernel) (by decide +kernel)
theorem tw_1299 : Cond.methodLink RL 166 yX5_through ∈ TBL := tbl_3 (i := 229) (by decide +kernel) (by decide +kernel)
theorem tw_1300 : Cond.instanceMethod yX5_through ∈ TBL := tbl_3 (i := 230) (by decide +kernel) (by decide +kernel)
theorem tw_1301 : Cond.selects RX5 yX5_through yX5_through ∈ TBL := tbl_3 (i := 231) (by decide +kernel) (by decide +kernel)
theorem vw_RL_166 : VW RL 166 RX5 yX5_through (.code yX5_through cX5_through 5 (some .int)) 1 := ⟨good_V tw_1299 tw_1300 tw_1301 tw_60 tw_1298, by decide +kernel⟩
theorem tw_1303 : Cond.code yX6_through cX6_through 2 (some .int) ∈ TBL := tbl_6 (i := 10) (by decide +kernel) (by decide +kernel)
theorem tw_1304 : Cond.methodLink RL 169 yX6_through ∈ TBL := tbl_6 (i := 7) (by decide +kernel) (by decide +kernel)
theorem tw_1305 : Cond.instanceMethod yX6_through ∈ TBL := tbl_6 (i := 8) (by decide +kernel) (by decide +kernel)
theorem tw_1306 : Cond.selects RX6 yX6_through yX6_through ∈ TBL := tbl_6 (i := 9) (by decide +kernel) (by decide +kernel)
theorem vw_RL_169 : VW RL 169 RX6 yX6_through (.code yX6_through cX6_through 2 (some .int)) 1 := ⟨good_V tw_1304 tw_1305 tw_1306 tw_618 tw_1303, by decide +kernel⟩
theorem tw_1308 : Cond.code yX5_odds cX5_odds 7 (some .int) ∈ TBL := tbl_3 (i := 236) (by decide +kernel) (by decide +kernel)
theorem tw_1309 : Cond.methodLink RL 170 yX5_odds ∈ TBL := tbl_3 (i := 233) (by decide +kernel) (by decide +kernel)
theorem tw_1310 : Cond.instanceMethod yX5_odds ∈ TBL := tbl_3 (i := 234) (by decide +kernel) (by decide +kernel)
theorem tw_1311 : Cond.selects RX5 yX5_odds yX5_odds ∈ TBL := tbl_3 (i := 235) (by decide +kernel) (by decide +kernel)
theorem vw_RL_170 : VW RL 170 RX5 yX5_odds (.code yX5_odds cX5_odds 7 (some .int)) 1 := ⟨good_V tw_1309 tw_1310 tw_1311 tw_60 tw_1308, by decide +kernel⟩
theorem tw_1313 : Cond.code yX6_odds cX6_odds 11 (some .int) ∈ TBL := tbl_6 (i := 14) (by decide +kernel) (by decide +kernel)
theorem tw_1314 : Cond.methodLink RL 173 yX6_odds ∈ TBL := tbl_6 (i := 11) (by decide +kernel) (by decide +kernel)
theorem tw_1315 : Cond.instanceMethod yX6_odds ∈ TBL := tbl_6 (i := 12) (by decide +kernel) (by decide +kernel)
theorem tw_1316 : Cond.selects RX6 yX6_odds yX6_odds ∈ TBL := tbl_6 (i := 13) (by decide +kernel) (by decide +kernel)
theorem vw_RL_173 : VW RL 173 RX6 yX6_odds (.code yX6_odds cX6_odds 11 (some .int)) 1 := ⟨good_V tw_1314 tw_1315 tw_1316 tw_618 tw_1313, by decide +kernel⟩
theorem tw_1318 : Cond.code yX5_lots cX5_lots 6 (some .int) ∈ TBL := tbl_4 (i := 3) (by decide +kernel) (by decide +kernel)
theorem tw_1319 : Cond.methodLink RL 174 yX5_lots ∈ TBL := tbl_4 (i := 0) (by decide +kernel) (by decide +kernel)
theorem tw_1320 : Cond.instanceMethod yX5_lots ∈ TBL := tbl_4 (i := 1) (by decide +kernel) (by decide +kernel)
theorem tw_1321 : Cond.selects RX5 yX5_lots yX5_lots ∈ TBL := tbl_4 (i := 2) (by decide +kernel) (by decide +kernel)
theorem vw_RL_174 : VW RL 174 RX5 yX5_lots (.code yX5_lots cX5_lots 6 (some .int)) 2 := ⟨good_V tw_1319 tw_1320 tw_1321 tw_60 tw_1318, by decide +kernel⟩
theorem tw_1323 : Cond.code yX6_lots cX6_lots 6 (some .int) ∈ TBL := tbl_6 (i := 23) (by decide +kernel) (by decide +kernel)
theorem tw_1324 : Cond.methodLink RL 177 yX6_lots ∈ TBL := tbl_6 (i := 20) (by decide +kernel) (by decide +kernel)
theorem tw_1325 : Cond.instanceMethod yX6_lots ∈ TBL := tbl_6 (i := 21) (by decide +kernel) (by decide +kernel)
theorem tw_1326 : Cond.selects RX6 yX6_lots yX6_lots ∈ TBL := tbl_6 (i := 22) (by decide +kernel) (by decide +kernel)
theorem vw_RL_177 : VW RL 177 RX6 yX6_lots (.code yX6_lots cX6_lots 6 (some .int)) 2 := ⟨good_V tw_1324 tw_1325 tw_1326 tw_618 tw_1323, by decide +kernel⟩
theorem tw_1328 : Cond.code yX5_asked cX5_asked 1 (some .int) ∈ TBL := tbl_4 (i := 19) (by decide +kernel) (by decide +kernel)
theorem tw_1329 : Cond.methodLink RL 178 yX5_asked ∈ TBL := tbl_4 (i := 16) (by decide +kernel) (by decide +kernel)
theorem tw_1330 : Cond.instanceMethod yX5_asked ∈ TBL := tbl_4 (i := 17) (by decide +kernel) (by decide +kernel)
theorem tw_1331 : Cond.selects RX5 yX5_asked yX5_asked ∈ TBL := tbl_4 (i := 18) (by decide +kernel) (by decide +kernel)
theorem vw_RL_178 : VW RL 178 RX5 yX5_asked (.code yX5_asked cX5_asked 1 (some .int)) 0 := ⟨good_V tw_1329 tw_1330 tw_1331 tw_60 tw_1328, by decide +kernel⟩
theorem tw_1333 : Cond.code yX6_asked cX6_asked 1 (some .int) ∈ TBL := tbl_6 (i := 37) (by decide +kernel) (by decide +kernel)
theorem tw_1334 : Cond.methodLink RL 181 yX6_asked ∈ TBL := tbl_6 (i := 34) (by decide +kernel) (by decide +kernel)
theorem tw_1335 : Cond.instanceMethod yX6_asked ∈ TBL := tbl_6 (i := 35) (by decide +kernel) (by decide +kernel)
theorem tw_1336 : Cond.selects RX6 yX6_asked yX6_asked ∈ TBL := tbl_6 (i := 36) (by decide +kernel) (by decide +kernel)
theorem vw_RL_181 : VW RL 181 RX6 yX6_asked (.code yX6_asked cX6_asked 1 (some .int)) 0 := ⟨good_V tw_1334 tw_1335 tw_1336 tw_618 tw_1333, by decide +kernel⟩
theorem tw_1338 : Cond.code yX5_upper cX5_upper 1 (some .long) ∈ TBL := tbl_4 (i := 23) (by decide +kernel) (by decide +kernel)
theorem tw_1339 : Cond.methodLink RL 182 yX5_upper ∈ TBL := tbl_4 (i := 20) (by decide +kernel) (by decide +kernel)
theorem tw_1340 : Cond.instanceMethod yX5_upper ∈ TBL := tbl_4 (i := 21) (by decide +kernel) (by decide +kernel)
theorem tw_1341 : Cond.selects RX5 yX5_upper yX5_upper ∈ TBL := tbl_4 (i := 22) (by decide +kernel) (by decide +kernel)
theorem vw_RL_182 : VW RL 182 RX5 yX5_upper (.code yX5_upper cX5_upper 1 (some .long)) 0 := ⟨good_V tw_1339 tw_1340 tw_1341 tw_60 tw_1338, by decide +kernel⟩
theorem tw_1343 : Cond.code yX6_upper cX6_upper 1 (some .long) ∈ TBL := tbl_6 (i := 41) (by decide +kernel) (by decide +kernel)
theorem tw_1344 : Cond.methodLink RL 186 yX6_upper ∈ TBL := tbl_6 (i := 38) (by decide +kernel) (by decide +kernel)
theorem tw_1345 : Cond.instanceMethod yX6_upper ∈ TBL := tbl_6 (i := 39) (by decide +kernel) (by decide +kernel)
theorem tw_1346 : Cond.selects RX6 yX6_upper yX6_upper ∈ TBL := tbl_6 (i := 40) (by decide +kernel) (by decide +kernel)
theorem vw_RL_186 : VW RL 186 RX6 yX6_upper (.code yX6_upper cX6_upper 1 (some .long)) 0 := ⟨good_V tw_1344 tw_1345 tw_1346 tw_618 tw_1343, by decide +kernel⟩
theorem tw_1348 : Cond.code yX5_lower cX5_lower 1 (some .long) ∈ TBL := tbl_4 (i := 27) (by decide +kernel) (by decide +kernel)
theorem tw_1349 : Cond.methodLink RL 187 yX5_lower ∈ TBL := tbl_4 (i := 24) (by decide +kernel) (by decide +kernel)
theorem tw_1350 : Cond.instanceMethod yX5_lower ∈ TBL := tbl_4 (i := 25) (by decide +kernel) (by decide +kernel)
theorem tw_1351 : Cond.selects RX5 yX5_lower yX5_lower ∈ TBL := tbl_4 (i := 26) (by decide +kernel) (by decide +kernel)
theorem vw_RL_187 : VW RL 187 RX5 yX5_lower (.code yX5_lower cX5_lower 1 (some .long)) 0 := ⟨good_V tw_1349 tw_1350 tw_1351 tw_60 tw_1348, by decide +kernel⟩
theorem tw_1353 : Cond.code yX6_lower cX6_lower 1 (some .long) ∈ TBL := tbl_6 (i := 45) (by decide +kernel) (by decide +kernel)
theorem tw_1354 : Cond.methodLink RL 190 yX6_lower ∈ TBL := tbl_6 (i := 42) (by decide +kernel) (by decide +kernel)
theorem tw_1355 : Cond.instanceMethod yX6_lower ∈ TBL := tbl_6 (i := 43) (by decide +kernel) (by decide +kernel)
theorem tw_1356 : Cond.selects RX6 yX6_lower yX6_lower ∈ TBL := tbl_6 (i := 44) (by decide +kernel) (by decide +kernel)
theorem vw_RL_190 : VW RL 190 RX6 yX6_lower (.code yX6_lower cX6_lower 1 (some .long)) 0 := ⟨good_V tw_1354 tw_1355 tw_1356 tw_618 tw_1353, by decide +kernel⟩
theorem tw_1358 : Cond.code yX5_count cX5_count 2 (some .int) ∈ TBL := tbl_4 (i := 31) (by decide +kernel) (by decide +kernel)
theorem tw_1359 : Cond.methodLink RL 191 yX5_count ∈ TBL := tbl_4 (i := 28) (by decide +kernel) (by decide +kernel)
theorem tw_1360 : Cond.instanceMethod yX5_count ∈ TBL := tbl_4 (i := 29) (by decide +kernel) (by decide +kernel)
theorem tw_1361 : Cond.selects RX5 yX5_count yX5_count ∈ TBL := tbl_4 (i := 30) (by decide +kernel) (by decide +kernel)
theorem vw_RL_191 : VW RL 191 RX5 yX5_count (.code yX5_count cX5_count 2 (some .int)) 1 := ⟨good_V tw_1359 tw_1360 tw_1361 tw_60 tw_1358, by decide +kernel⟩
theorem tw_1363 : Cond.code yX6_count cX6_count 2 (some .int) ∈ TBL := tbl_6 (i := 49) (by decide +kernel) (by decide +kernel)
theorem tw_1364 : Cond.methodLink RL 194 yX6_count ∈ TBL := tbl_6 (i := 46) (by decide +kernel) (by decide +kernel)
theorem tw_1365 : Cond.instanceMethod yX6_count ∈ TBL := tbl_6 (i := 47) (by decide +kernel) (by decide +kernel)
theorem tw_1366 : Cond.selects RX6 yX6_count yX6_count ∈ TBL := tbl_6 (i := 48) (by decide +kernel) (by decide +kernel)
theorem vw_RL_194 : VW RL 194 RX6 yX6_count (.code yX6_count cX6_count 2 (some .int)) 1 := ⟨good_V tw_1364 tw_1365 tw_1366 tw_618 tw_1363, by decide +kernel⟩
theorem tw_1368 : Cond.code yX5_finding cX5_finding 1 (some .int) ∈ TBL := tbl_4 (i := 57) (by decide +kernel) (by decide +kernel)
theorem tw_1369 : Cond.methodLink RL 195 yX5_finding ∈ TBL := tbl_4 (i := 54) (by decide +kernel) (by decide +kernel)
theorem tw_1370 : Cond.instanceMethod yX5_finding ∈ TBL := tbl_4 (i := 55) (by decide +kernel) (by decide +kernel)
theorem tw_1371 : Cond.selects RX5 yX5_finding yX5_finding ∈ TBL := tbl_4 (i := 56) (by decide +kernel) (by decide +kernel)
theorem vw_RL_195 : VW RL 195 RX5 yX5_finding (.code yX5_finding cX5_finding 1 (some .int)) 0 := ⟨good_V tw_1369 tw_1370 tw_1371 tw_60 tw_1368, by decide +kernel⟩
theorem tw_1373 : Cond.code yX6_finding cX6_finding 1 (some .int) ∈ TBL := tbl_6 (i := 70) (by decide +kernel) (by decide +kernel)
theorem tw_1374 : Cond.methodLink RL 198 yX6_finding ∈ TBL := tbl_6 (i := 67) (by decide +kernel) (by decide +kernel)
theorem tw_1375 : Cond.instanceMethod yX6_finding ∈ TBL := tbl_6 (i := 68) (by decide +kernel) (by decide +kernel)
theorem tw_1376 : Cond.selects RX6 yX6_finding yX6_finding ∈ TBL := tbl_6 (i := 69) (by decide +kernel) (by decide +kernel)
theorem vw_RL_198 : VW RL 198 RX6 yX6_finding (.code yX6_finding cX6_finding 1 (some .int)) 0 := ⟨good_V tw_1374 tw_1375 tw_1376 tw_618 tw_1373, by decide +kernel⟩
theorem tw_1378 : Cond.code yX5_findings cX5_findings 2 (some .int) ∈ TBL := tbl_4 (i := 61) (by decide +kernel) (by decide +kernel)
theorem tw_1379 : Cond.methodLink RL 199 yX5_findings ∈ TBL := tbl_4 (i := 58) (by decide +kernel) (by decide +kernel)
theorem tw_1380 : Cond.instanceMethod yX5_findings ∈ TBL := tbl_4 (i := 59) (by decide +kernel) (by decide +kernel)
theorem tw_1381 : Cond.selects RX5 yX5_findings yX5_findings ∈ TBL := tbl_4 (i := 60) (by decide +kernel) (by decide +kernel)
theorem vw_RL_199 : VW RL 199 RX5 yX5_findings (.code yX5_findings cX5_findings 2 (some .int)) 1 := ⟨good_V tw_1379 tw_1380 tw_1381 tw_60 tw_1378, by decide +kernel⟩
theorem tw_1383 : Cond.code yX6_findings cX6_findings 2 (some .int) ∈ TBL := tbl_6 (i := 74) (by decide +kernel) (by decide +kernel)
theorem tw_1384 : Cond.methodLink RL 202 yX6_findings ∈ TBL := tbl_6 (i := 71) (by decide +kernel) (by decide +kernel)
theorem tw_1385 : Cond.instanceMethod yX6_findings ∈ TBL := tbl_6 (i := 72) (by decide +kernel) (by decide +kernel)
theorem tw_1386 : Cond.selects RX6 yX6_findings yX6_findings ∈ TBL := tbl_6 (i := 73) (by decide +kernel) (by decide +kernel)
theorem vw_RL_202 : VW RL 202 RX6 yX6_findings (.code yX6_findings cX6_findings 2 (some .int)) 1 := ⟨good_V tw_1384 tw_1385 tw_1386 tw_618 tw_1383, by decide +kernel⟩
theorem tw_1388 : Cond.code yX5_digest cX5_digest 5 (some .long) ∈ TBL := tbl_4 (i := 65) (by decide +kernel) (by decide +kernel)
theorem tw_1389 : Cond.methodLink RL 203 yX5_digest ∈ TBL := tbl_4 (i := 62) (by decide +kernel) (by decide +kernel)
theorem tw_1390 : Cond.instanceMethod yX5_digest ∈ TBL := tbl_4 (i := 63) (by decide +kernel) (by decide +kernel)
theorem tw_1391 : Cond.selects RX5 yX5_digest yX5_digest ∈ TBL := tbl_4 (i := 64) (by decide +kernel) (by decide +kernel)
theorem vw_RL_203 : VW RL 203 RX5 yX5_digest (.code yX5_digest cX5_digest 5 (some .long)) 0 := ⟨good_V tw_1389 tw_1390 tw_1391 tw_60 tw_1388, by decide +kernel⟩
theorem tw_1393 : Cond.code yX6_digest cX6_digest 5 (some .long) ∈ TBL := tbl_6 (i := 78) (by decide +kernel) (by decide +kernel)
theorem tw_1394 : Cond.methodLink RL 206 yX6_digest ∈ TBL := tbl_6 (i := 75) (by decide +kernel) (by decide +kernel)
theorem tw_1395 : Cond.instanceMethod yX6_digest ∈ TBL := tbl_6 (i := 76) (by decide +kernel) (by decide +kernel)
theorem tw_1396 : Cond.selects RX6 yX6_digest yX6_digest ∈ TBL := tbl_6 (i := 77) (by decide +kernel) (by decide +kernel)
theorem vw_RL_206 : VW RL 206 RX6 yX6_digest (.code yX6_digest cX6_digest 5 (some .long)) 0 := ⟨good_V tw_1394 tw_1395 tw_1396 tw_618 tw_1393, by decide +kernel⟩
theorem dL_law_0 : decode cL_law 0 = .ok (.new 7, 3) := by decide +kernel
theorem dL_law_3 : decode cL_law 3 = .ok (.dup, 1) := by decide +kernel
theorem dL_law_4 : decode cL_law 4 = .ok (.invokespecial 9, 3) := by decide +kernel
theorem dL_law_7 : decode cL_law 7 = .ok (.astore_n 1, 1) := by decide +kernel
theorem dL_law_8 : decode cL_law 8 = .ok (.new 10, 3) := by decide +kernel
theorem dL_law_11 : decode cL_law 11 = .ok (.dup, 1) := by decide +kernel
theorem dL_law_12 : decode cL_law 12 = .ok (.invokespecial 12, 3) := by decide +kernel
theorem dL_law_15 : decode cL_law 15 = .ok (.astore_n 2, 1) := by decide +kernel
theorem dL_law_16 : decode cL_law 16 = .ok (.iconst 0, 1) := by decide +kernel
theorem dL_law_17 : decode cL_law 17 = .ok (.istore_n 3, 1) := by decide +kernel
theorem dL_law_18 : decode cL_law 18 = .ok (.iload_n 3, 1) := by decide +kernel
theorem dL_law_19 : decode cL_law 19 = .ok (.aload_n 0, 1) := by decide +kernel
theorem dL_law_20 : decode cL_law 20 = .ok (.arraylength, 1) := by decide +kernel
theorem dL_law_21 : decode cL_law 21 = .ok (.bipush 6, 2) := by decide +kernel
theorem dL_law_23 : decode cL_law 23 = .ok (.isub, 1) := by decide +kernel
theorem dL_law_24 : decode cL_law 24 = .ok (.if_icmp .gt 1372, 3) := by decide +kernel
theorem dL_law_27 : decode cL_law 27 = .ok (.aload_n 0, 1) := by decide +kernel
theorem dL_law_28 : decode cL_law 28 = .ok (.iload_n 3, 1) := by decide +kernel
theorem dL_law_29 : decode cL_law 29 = .ok (.iaload, 1) := by decide +kernel
theorem dL_law_30 : decode cL_law 30 = .ok (.bipush 63, 2) := by decide +kernel
theorem dL_law_32 : decode cL_law 32 = .ok (.iand, 1) := by decide +kernel
theorem dL_law_33 : decode cL_law 33 = .ok (.tableswitch 1357 0 46 #[203, 236, 279, 312, 335, 398, 421, 454, 497, 520, 543, 576, 609, 642, 665, 708, 721, 754, 777, 800, 823, 846, 869, 882, 905, 918, 941, 974, 987, 1010, 1023, 1036, 1049, 1082, 1095, 1118, 1141, 1164, 1187, 1210, 1243, 1256, 1270, 1284, 1307, 1320, 1343], 203) := by decide +kernel
theorem dL_law_236 : decode cL_law 236 = .ok (.aload_n 1, 1) := by decide +kernel
theorem dL_law_237 : decode cL_law 237 = .ok (.aload_n 0, 1) := by decide +kernel
theorem dL_law_238 : decode cL_law 238 = .ok (.iload_n 3, 1) := by decide +kernel
theorem dL_law_239 : decode cL_law 239 = .ok (.iconst 1, 1) := by decide +kernel
theorem dL_law_240 : decode cL_law 240 = .ok (.iadd, 1) := by decide +kernel
theorem dL_law_241 : decode cL_law 241 = .ok (.iaload, 1) := by decide +kernel
theorem dL_law_242 : decode cL_law 242 = .ok (.aload_n 0, 1) := by decide +kernel
theorem dL_law_243 : decode cL_law 243 = .ok (.iload_n 3, 1) := by decide +kernel
theorem dL_law_244 : decode cL_law 244 = .ok (.iconst 2, 1) := by decide +kernel
theorem dL_law_245 : decode cL_law 245 = .ok (.iadd, 1) := by decide +kernel
theorem dL_law_246 : decode cL_law 246 = .ok (.iaload, 1) := by decide +kernel
theorem dL_law_247 : decode cL_law 247 = .ok (.invokevirtual 13, 3) := by decide +kernel
theorem dL_law_250 : decode cL_law 250 = .ok (.aload_n 2, 1) := by decide +kernel
theorem dL_law_251 : decode cL_law 251 = .ok (.aload_n 0, 1) := by decide +kernel
theorem dL_law_252 : decode cL_law 252 = .ok (.iload_n 3, 1) := by decide +kernel
theorem dL_law_253 : decode cL_law 253 = .ok (.iconst 1, 1) := by decide +kernel
theorem dL_law_254 : decode cL_law 254 = .ok (.iadd, 1) := by decide +kernel
theorem dL_law_255 : decode cL_law 255 = .ok (.iaload, 1) := by decide +kernel
theorem dL_law_256 : decode cL_law 256 = .ok (.aload_n 0, 1) := by decide +kernel
theorem dL_law_257 : decode cL_law 257 = .ok (.iload_n 3, 1) := by decide +kernel
theorem dL_law_258 : decode cL_law 258 = .ok (.iconst 2, 1) := by decide +kernel
theorem dL_law_259 : decode cL_law 259 = .ok (.iadd, 1) := by decide +kernel
theorem dL_law_260 : decode cL_law 260 = .ok (.iaload, 1) := by decide +kernel
theorem dL_law_261 : decode cL_law 261 = .ok (.invokevirtual 17, 3) := by decide +kernel
theorem dL_law_264 : decode cL_law 264 = .ok (.if_icmp .eq 1126, 3) := by decide +kernel
theorem dL_law_267 : decode cL_law 267 = .ok (.iconst 0, 1) := by decide +kernel
theorem dL_law_268 : decode cL_law 268 = .ok (.ireturn, 1) := by decide +kernel
theorem dL_law_269 : decode cL_law 269 = .ok (.aload_n 1, 1) := by decide +kernel
theorem dL_law_270 : decode cL_law 270 = .ok (.aload_n 0, 1) := by decide +kernel
theorem dL_law_271 : decode cL_law 271 = .ok (.iload_n 3, 1) := by decide +kernel
theorem dL_law_272 : decode cL_law 272 = .ok (.iconst 1, 1) := by decide +kernel
theorem dL_law_273 : decode cL_law 273 = .ok (.iadd, 1) := by decide +kernel
theorem dL_law_274 : decode cL_law 274 = .ok (.iaload, 1) := by decide +kernel
theorem dL_law_275 : decode cL_law 275 = .ok (.aload_n 0, 1) := by decide +kernel
theorem dL_law_276 : decode cL_law 276 = .ok (.iload_n 3, 1) := by decide +kernel
theorem dL_law_277 : decode cL_law 277 = .ok (.iconst 2, 1) := by decide +kernel
theorem dL_law_278 : decode cL_law 278 = .ok (.iadd, 1) := by decide +kernel
theorem dL_law_279 : decode cL_law 279 = .ok (.iaload, 1) := by decide +kernel
theorem dL_law_280 : decode cL_law 280 = .ok (.aload_n 0, 1) := by decide +kernel
theorem dL_law_281 : decode cL_law 281 = .ok (.iload_n 3, 1) := by decide +kernel
theorem dL_law_282 : decode cL_law 282 = .ok (.iconst 3, 1) := by decide +kernel
theorem dL_law_283 : decode cL_law 283 = .ok (.iadd, 1) := by decide +kernel
theorem dL_law_284 : decode cL_law 284 = .ok (.iaload, 1) := by decide +kernel
theorem dL_law_285 : decode cL_law 285 = .ok (.invokevirtual 18, 3) := by decide +kernel
theorem dL_law_288 : decode cL_law 288 = .ok (.aload_n 2, 1) := by decide +kernel
theorem dL_law_289 : decode cL_law 289 = .ok (.aload_n 0, 1) := by decide +kernel
theorem dL_law_290 : decode cL_law 290 = .ok (.iload_n 3, 1) := by decide +kernel
theorem dL_law_291 : decode cL_law 291 = .ok (.iconst 1, 1) := by decide +kernel
theorem dL_law_292 : decode cL_law 292 = .ok (.iadd, 1) := by decide +kernel
theorem dL_law_293 : decode cL_law 293 = .ok (.iaload, 1) := by decide +kernel
theorem dL_law_294 : decode cL_law 294 = .ok (.aload_n 0, 1) := by decide +kernel
theorem dL_law_295 : decode cL_law 295 = .ok (.iload_n 3, 1) := by decide +kernel
theorem dL_law_296 : decode cL_law 296 = .ok (.iconst 2, 1) := by decide +kernel
theorem dL_law_297 : decode cL_law 297 = .ok (.iadd, 1) := by decide +kernel
theorem dL_law_298 : decode cL_law 298 = .ok (.iaload, 1) := by decide +kernel
theorem dL_law_299 : decode cL_law 299 = .ok (.aload_n 0, 1) := by decide +kernel
theorem dL_law_300 : decode cL_law 300 = .ok (.iload_n 3, 1) := by decide +kernel
theorem dL_law_301 : decode cL_law 301 = .ok (.iconst 3, 1) := by decide +kernel
theorem dL_law_302 : decode cL_law 302 = .ok (.iadd, 1) := by decide +kernel
theorem dL_law_303 : decode cL_law 303 = .ok (.iaload, 1) := by decide +kernel
theorem dL_law_304 : decode cL_law 304 = .ok (.invokevirtual 22, 3) := by decide +kernel
theorem dL_law_307 : decode cL_law 307 = .ok (.if_icmp .eq 1083, 3) := by decide +kernel
theorem dL_law_310 : decode cL_law 310 = .ok (.iconst 0, 1) := by decide +kernel
theorem dL_law_311 : decode cL_law 311 = .ok (.ireturn, 1) := by decide +kernel
theorem dL_law_312 : decode cL_law 312 = .ok (.aload_n 1, 1) := by decide +kernel
theorem dL_law_313 : decode cL_law 313 = .ok (.aload_n 0, 1) := by decide +kernel
theorem dL_law_314 : decode cL_law 314 = .ok (.iload_n 3, 1) := by decide +kernel
theorem dL_law_315 : decode cL_law 315 = .ok (.iconst 1, 1) := by decide +kernel
theorem dL_law_316 : decode cL_law 316 = .ok (.iadd, 1) := by decide +kernel
theorem dL_law_317 : decode cL_law 317 = .ok (.iaload, 1) := by decide +kernel
theorem dL_law_318 : decode cL_law 318 = .ok (.aload_n 0, 1) := by decide +kernel
theorem dL_law_319 : decode cL_law 319 = .ok (.iload_n 3, 1) := by decide +kernel
theorem dL_law_320 : decode cL_law 320 = .ok (.iconst 2, 1) := by decide +kernel
theorem dL_law_321 : decode cL_law 321 = .ok (.iadd, 1) := by decide +kernel
theorem dL_law_322 : decode cL_law 322 = .ok (.iaload, 1) := by decide +kernel
theorem dL_law_323 : decode cL_law 323 = .ok (.invokevirtual 23, 3) := by decide +kernel
theorem dL_law_326 : decode cL_law 326 = .ok (.aload_n 2, 1) := by decide +kernel
theorem dL_law_327 : decode cL_law 327 = .ok (.aload_n 0, 1) := by decide +kernel
theorem dL_law_328 : decode cL_law 328 = .ok (.iload_n 3, 1) := by decide +kernel
theorem dL_law_329 : decode cL_law 329 = .ok (.iconst 1, 1) := by decide +kernel
theorem dL_law_330 : decode cL_law 330 = .ok (.iadd, 1) := by decide +kernel
theorem dL_law_331 : decode cL_law 331 = .ok (.iaload, 1) := by decide +kernel
theorem dL_law_332 : decode cL_law 332 = .ok (.aload_n 0, 1) := by decide +kernel
theorem dL_law_333 : decode cL_law 333 = .ok (.iload_n 3, 1) := by decide +kernel
theorem dL_law_334 : decode cL_law 334 = .ok (.iconst 2, 1) := by decide +kernel
theorem dL_law_335 : decode cL_law 335 = .ok (.iadd, 1) := by decide +kernel
theorem dL_law_336 : decode cL_law 336 = .ok (.iaload, 1) := by decide +kernel
theorem dL_law_337 : decode cL_law 337 = .ok (.invokevirtual 26, 3) := by decide +kernel
theorem dL_law_340 : decode cL_law 340 = .ok (.if_icmp .eq 1050, 3) := by decide +kernel
theorem dL_law_343 : decode cL_law 343 = .ok (.iconst 0, 1) := by decide +kernel
theorem dL_law_344 : decode cL_law 344 = .ok (.ireturn, 1) := by decide +kernel
theorem dL_law_345 : decode cL_law 345 = .ok (.aload_n 1, 1) := by decide +kernel
theorem dL_law_346 : decode cL_law 346 = .ok (.aload_n 0, 1) := by decide +kernel
theorem dL_law_347 : decode cL_law 347 = .ok (.iload_n 3, 1) := by decide +kernel
theorem dL_law_348 : decode cL_law 348 = .ok (.iconst 1, 1) := by decide +kernel
theorem dL_law_349 : decode cL_law 349 = .ok (.iadd, 1) := by decide +kernel
theorem dL_law_350 : decode cL_law 350 = .ok (.iaload, 1) := by decide +kernel
theorem dL_law_351 : decode cL_law 351 = .ok (.invokevirtual 27, 3) := by decide +kernel
theorem dL_law_354 : decode cL_law 354 = .ok (.aload_n 2, 1) := by decide +kernel
theorem dL_law_355 : decode cL_law 355 = .ok (.aload_n 0, 1) := by decide +kernel
theorem dL_law_356 : decode cL_law 356 = .ok (.iload_n 3, 1) := by decide +kernel
theorem dL_law_357 : decode cL_law 357 = .ok (.iconst 1, 1) := by decide +kernel
theorem dL_law_358 : decode cL_law 358 = .ok (.iadd, 1) := by decide +kernel
theorem dL_law_359 : decode cL_law 359 = .ok (.iaload, 1) := by decide +kernel
theorem dL_law_360 : decode cL_law 360 = .ok (.invokevirtual 31, 3) := by decide +kernel
theorem dL_law_363 : decode cL_law 363 = .ok (.if_icmp .eq 1027, 3) := by decide +kernel
theorem dL_law_366 : decode cL_law 366 = .ok (.iconst 0, 1) := by decide +kernel
theorem dL_law_367 : decode cL_law 367 = .ok (.ireturn, 1) := by decide +kernel
theorem dL_law_368 : decode cL_law 368 = .ok (.aload_n 1, 1) := by decide +kernel
theorem dL_law_369 : decode cL_law 369 = .ok (.aload_n 0, 1) := by decide +kernel
theorem dL_law_370 : decode cL_law 370 = .ok (.iload_n 3, 1) := by decide +kernel
theorem dL_law_371 : decode cL_law 371 = .ok (.iconst 1, 1) := by decide +kernel
theorem dL_law_372 : decode cL_law 372 = .ok (.iadd, 1) := by decide +kernel
theorem dL_law_373 : decode cL_law 373 = .ok (.iaload, 1) := by decide +kernel
theorem dL_law_374 : decode cL_law 374 = .ok (.aload_n 0, 1) := by decide +kernel
theorem dL_law_375 : decode cL_law 375 = .ok (.iload_n 3, 1) := by decide +kernel
theorem dL_law_376 : decode cL_law 376 = .ok (.iconst 2, 1) := by decide +kernel
theorem dL_law_377 : decode cL_law 377 = .ok (.iadd, 1) := by decide +kernel
theorem dL_law_378 : decode cL_law 378 = .ok (.iaload, 1) := by decide +kernel
theorem dL_law_379 : decode cL_law 379 = .ok (.aload_n 0, 1) := by decide +kernel
theorem dL_law_380 : decode cL_law 380 = .ok (.iload_n 3, 1) := by decide +kernel
theorem dL_law_381 : decode cL_law 381 = .ok (.iconst 3, 1) := by decide +kernel
theorem dL_law_382 : decode cL_law 382 = .ok (.iadd, 1) := by decide +kernel
theorem dL_law_383 : decode cL_law 383 = .ok (.iaload, 1) := by decide +kernel
theorem dL_law_384 : decode cL_law 384 = .ok (.aload_n 0, 1) := by decide +kernel
theorem dL_law_385 : decode cL_law 385 = .ok (.iload_n 3, 1) := by decide +kernel
theorem dL_law_386 : decode cL_law 386 = .ok (.iconst 4, 1) := by decide +kernel
theorem dL_law_387 : decode cL_law 387 = .ok (.iadd, 1) := by decide +kernel
theorem dL_law_388 : decode cL_law 388 = .ok (.iaload, 1) := by decide +kernel
theorem dL_law_389 : decode cL_law 389 = .ok (.aload_n 0, 1) := by decide +kernel
theorem dL_law_390 : decode cL_law 390 = .ok (.iload_n 3, 1) := by decide +kernel
theorem dL_law_391 : decode cL_law 391 = .ok (.iconst 5, 1) := by decide +kernel
theorem dL_law_392 : decode cL_law 392 = .ok (.iadd, 1) := by decide +kernel
theorem dL_law_393 : decode cL_law 393 = .ok (.iaload, 1) := by decide +kernel
theorem dL_law_394 : decode cL_law 394 = .ok (.invokevirtual 32, 3) := by decide +kernel
theorem dL_law_397 : decode cL_law 397 = .ok (.aload_n 2, 1) := by decide +kernel
theorem dL_law_398 : decode cL_law 398 = .ok (.aload_n 0, 1) := by decide +kernel
theorem dL_law_399 : decode cL_law 399 = .ok (.iload_n 3, 1) := by decide +kernel
theorem dL_law_400 : decode cL_law 400 = .ok (.iconst 1, 1) := by decide +kernel
theorem dL_law_401 : decode cL_law 401 = .ok (.iadd, 1) := by decide +kernel
theorem dL_law_402 : decode cL_law 402 = .ok (.iaload, 1) := by decide +kernel
theorem dL_law_403 : decode cL_law 403 = .ok (.aload_n 0, 1) := by decide +kernel
theorem dL_law_404 : decode cL_law 404 = .ok (.iload_n 3, 1) := by decide +kernel
theorem dL_law_405 : decode cL_law 405 = .ok (.iconst 2, 1) := by decide +kernel
theorem dL_law_406 : decode cL_law 406 = .ok (.iadd, 1) := by decide +kernel
theorem dL_law_407 : decode cL_law 407 = .ok (.iaload, 1) := by decide +kernel
theorem dL_law_408 : decode cL_law 408 = .ok (.aload_n 0, 1) := by decide +kernel
theorem dL_law_409 : decode cL_law 409 = .ok (.iload_n 3, 1) := by decide +kernel
theorem dL_law_410 : decode cL_law 410 = .ok (.iconst 3, 1) := by decide +kernel
theorem dL_law_411 : decode cL_law 411 = .ok (.iadd, 1) := by decide +kernel
theorem dL_law_412 : decode cL_law 412 = .ok (.iaload, 1) := by decide +kernel
theorem dL_law_413 : decode cL_law 413 = .ok (.aload_n 0, 1) := by decide +kernel
theorem dL_law_414 : decode cL_law 414 = .ok (.iload_n 3, 1) := by decide +kernel
theorem dL_law_415 : decode cL_law 415 = .ok (.iconst 4, 1) := by decide +kernel
theorem dL_law_416 : decode cL_law 416 = .ok (.iadd, 1) := by decide +kernel
theorem dL_law_417 : decode cL_law 417 = .ok (.iaload, 1) := by decide +kernel
theorem dL_law_418 : decode cL_law 418 = .ok (.aload_n 0, 1) := by decide +kernel
theorem dL_law_419 : decode cL_law 419 = .ok (.iload_n 3, 1) := by decide +kernel
theorem dL_law_420 : decode cL_law 420 = .ok (.iconst 5, 1) := by decide +kernel
theorem dL_law_421 : decode cL_law 421 = .ok (.iadd, 1) := by decide +kernel
theorem dL_law_422 : decode cL_law 422 = .ok (.iaload, 1) := by decide +kernel
theorem dL_law_423 : decode cL_law 423 = .ok (.invokevirtual 36, 3) := by decide +kernel
theorem dL_law_426 : decode cL_law 426 = .ok (.if_icmp .eq 964, 3) := by decide +kernel
theorem dL_law_429 : decode cL_law 429 = .ok (.iconst 0, 1) := by decide +kernel
theorem dL_law_430 : decode cL_law 430 = .ok (.ireturn, 1) := by decide +kernel
theorem dL_law_431 : decode cL_law 431 = .ok (.aload_n 1, 1) := by decide +kernel
theorem dL_law_432 : decode cL_law 432 = .ok (.aload_n 0, 1) := by decide +kernel
theorem dL_law_433 : decode cL_law 433 = .ok (.iload_n 3, 1) := by decide +kernel
theorem dL_law_434 : decode cL_law 434 = .ok (.iconst 1, 1) := by decide +kernel
theorem dL_law_435 : decode cL_law 435 = .ok (.iadd, 1) := by decide +kernel
theorem dL_law_436 : decode cL_law 436 = .ok (.iaload, 1) := by decide +kernel
theorem dL_law_437 : decode cL_law 437 = .ok (.invokevirtual 37, 3) := by decide +kernel
theorem dL_law_440 : decode cL_law 440 = .ok (.aload_n 2, 1) := by decide +kernel
theorem dL_law_441 : decode cL_law 441 = .ok (.aload_n 0, 1) := by decide +kernel
theorem dL_law_442 : decode cL_law 442 = .ok (.iload_n 3, 1) := by decide +kernel
theorem dL_law_443 : decode cL_law 443 = .ok (.iconst 1, 1) := by decide +kernel
theorem dL_law_444 : decode cL_law 444 = .ok (.iadd, 1) := by decide +kernel
theorem dL_law_445 : decode cL_law 445 = .ok (.iaload, 1) := by decide +kernel
theorem dL_law_446 : decode cL_law 446 = .ok (.invokevirtual 40, 3) := by decide +kernel
theorem dL_law_449 : decode cL_law 449 = .ok (.if_icmp .eq 941, 3) := by decide +kernel
theorem dL_law_452 : decode cL_law 452 = .ok (.iconst 0, 1) := by decide +kernel
theorem dL_law_453 : decode cL_law 453 = .ok (.ireturn, 1) := by decide +kernel
theorem dL_law_454 : decode cL_law 454 = .ok (.aload_n 1, 1) := by decide +kernel
theorem dL_law_455 : decode cL_law 455 = .ok (.aload_n 0, 1) := by decide +kernel
theorem dL_law_456 : decode cL_law 456 = .ok (.iload_n 3, 1) := by decide +kernel
theorem dL_law_457 : decode cL_law 457 = .ok (.iconst 1, 1) := by decide +kernel
theorem dL_law_458 : decode cL_law 458 = .ok (.iadd, 1) := by decide +kernel
theorem dL_law_459 : decode cL_law 459 = .ok (.iaload, 1) := by decide +kernel
theorem dL_law_460 : decode cL_law 460 = .ok (.aload_n 0, 1) := by decide +kernel
theorem dL_law_461 : decode cL_law 461 = .ok (.iload_n 3, 1) := by decide +kernel
theorem dL_law_462 : decode cL_law 462 = .ok (.iconst 2, 1) := by decide +kernel
theorem dL_law_463 : decode cL_law 463 = .ok (.iadd, 1) := by decide +kernel
theorem dL_law_464 : decode cL_law 464 = .ok (.iaload, 1) := by decide +kernel
theorem dL_law_465 : decode cL_law 465 = .ok (.invokevirtual 41, 3) := by decide +kernel
theorem dL_law_468 : decode cL_law 468 = .ok (.aload_n 2, 1) := by decide +kernel
theorem dL_law_469 : decode cL_law 469 = .ok (.aload_n 0, 1) := by decide +kernel
theorem dL_law_470 : decode cL_law 470 = .ok (.iload_n 3, 1) := by decide +kernel
theorem dL_law_471 : decode cL_law 471 = .ok (.iconst 1, 1) := by decide +kernel
theorem dL_law_472 : decode cL_law 472 = .ok (.iadd, 1) := by decide +kernel
theorem dL_law_473 : decode cL_law 473 = .ok (.iaload, 1) := by decide +kernel
theorem dL_law_474 : decode cL_law 474 = .ok (.aload_n 0, 1) := by decide +kernel
theorem dL_law_475 : decode cL_law 475 = .ok (.iload_n 3, 1) := by decide +kernel
theorem dL_law_476 : decode cL_law 476 = .ok (.iconst 2, 1) := by decide +kernel
theorem dL_law_477 : decode cL_law 477 = .ok (.iadd, 1) := by decide +kernel
theorem dL_law_478 : decode cL_law 478 = .ok (.iaload, 1) := by decide +kernel
theorem dL_law_479 : decode cL_law 479 = .ok (.invokevirtual 44, 3) := by decide +kernel
theorem dL_law_482 : decode cL_law 482 = .ok (.if_icmp .eq 908, 3) := by decide +kernel
theorem dL_law_485 : decode cL_law 485 = .ok (.iconst 0, 1) := by decide +kernel
theorem dL_law_486 : decode cL_law 486 = .ok (.ireturn, 1) := by decide +kernel
theorem dL_law_487 : decode cL_law 487 = .ok (.aload_n 1, 1) := by decide +kernel
theorem dL_law_488 : decode cL_law 488 = .ok (.aload_n 0, 1) := by decide +kernel
theorem dL_law_489 : decode cL_law 489 = .ok (.iload_n 3, 1) := by decide +kernel
theorem dL_law_490 : decode cL_law 490 = .ok (.iconst 1, 1) := by decide +kernel
theorem dL_law_491 : decode cL_law 491 = .ok (.iadd, 1) := by decide +kernel
theorem dL_law_492 : decode cL_law 492 = .ok (.iaload, 1) := by decide +kernel
theorem dL_law_493 : decode cL_law 493 = .ok (.aload_n 0, 1) := by decide +kernel
theorem dL_law_494 : decode cL_law 494 = .ok (.iload_n 3, 1) := by decide +kernel
theorem dL_law_495 : decode cL_law 495 = .ok (.iconst 2, 1) := by decide +kernel
theorem dL_law_496 : decode cL_law 496 = .ok (.iadd, 1) := by decide +kernel
theorem dL_law_497 : decode cL_law 497 = .ok (.iaload, 1) := by decide +kernel
theorem dL_law_498 : decode cL_law 498 = .ok (.aload_n 0, 1) := by decide +kernel
theorem dL_law_499 : decode cL_law 499 = .ok (.iload_n 3, 1) := by decide +kernel
theorem dL_law_500 : decode cL_law 500 = .ok (.iconst 3, 1) := by decide +kernel
theorem dL_law_501 : decode cL_law 501 = .ok (.iadd, 1) := by decide +kernel
theorem dL_law_502 : decode cL_law 502 = .ok (.iaload, 1) := by decide +kernel
theorem dL_law_503 : decode cL_law 503 = .ok (.invokevirtual 45, 3) := by decide +kernel
theorem dL_law_506 : decode cL_law 506 = .ok (.aload_n 2, 1) := by decide +kernel
theorem dL_law_507 : decode cL_law 507 = .ok (.aload_n 0, 1) := by decide +kernel
theorem dL_law_508 : decode cL_law 508 = .ok (.iload_n 3, 1) := by decide +kernel
theorem dL_law_509 : decode cL_law 509 = .ok (.iconst 1, 1) := by decide +kernel
theorem dL_law_510 : decode cL_law 510 = .ok (.iadd, 1) := by decide +kernel
theorem dL_law_511 : decode cL_law 511 = .ok (.iaload, 1) := by decide +kernel
theorem dL_law_512 : decode cL_law 512 = .ok (.aload_n 0, 1) := by decide +kernel
theorem dL_law_513 : decode cL_law 513 = .ok (.iload_n 3, 1) := by decide +kernel
theorem dL_law_514 : decode cL_law 514 = .ok (.iconst 2, 1) := by decide +kernel
theorem dL_law_515 : decode cL_law 515 = .ok (.iadd, 1) := by decide +kernel
theorem dL_law_516 : decode cL_law 516 = .ok (.iaload, 1) := by decide +kernel
theorem dL_law_517 : decode cL_law 517 = .ok (.aload_n 0, 1) := by decide +kernel
theorem dL_law_518 : decode cL_law 518 = .ok (.iload_n 3, 1) := by decide +kernel
theorem dL_law_519 : decode cL_law 519 = .ok (.iconst 3, 1) := by decide +kernel
theorem dL_law_520 : decode cL_law 520 = .ok (.iadd, 1) := by decide +kernel
theorem dL_law_521 : decode cL_law 521 = .ok (.iaload, 1) := by decide +kernel
theorem dL_law_522 : decode cL_law 522 = .ok (.invokevirtual 48, 3) := by decide +kernel
theorem dL_law_525 : decode cL_law 525 = .ok (.if_icmp .eq 865, 3) := by decide +kernel
theorem dL_law_528 : decode cL_law 528 = .ok (.iconst 0, 1) := by decide +kernel
theorem dL_law_529 : decode cL_law 529 = .ok (.ireturn, 1) := by decide +kernel
theorem dL_law_530 : decode cL_law 530 = .ok (.aload_n 1, 1) := by decide +kernel
theorem dL_law_531 : decode cL_law 531 = .ok (.aload_n 0, 1) := by decide +kernel
theorem dL_law_532 : decode cL_law 532 = .ok (.iload_n 3, 1) := by decide +kernel
theorem dL_law_533 : decode cL_law 533 = .ok (.iconst 1, 1) := by decide +kernel
theorem dL_law_534 : decode cL_law 534 = .ok (.iadd, 1) := by decide +kernel
theorem dL_law_535 : decode cL_law 535 = .ok (.iaload, 1) := by decide +kernel
theorem dL_law_536 : decode cL_law 536 = .ok (.invokevirtual 49, 3) := by decide +kernel
theorem dL_law_539 : decode cL_law 539 = .ok (.aload_n 2, 1) := by decide +kernel
theorem dL_law_540 : decode cL_law 540 = .ok (.aload_n 0, 1) := by decide +kernel
theorem dL_law_541 : decode cL_law 541 = .ok (.iload_n 3, 1) := by decide +kernel
theorem dL_law_542 : decode cL_law 542 = .ok (.iconst 1, 1) := by decide +kernel
theorem dL_law_543 : decode cL_law 543 = .ok (.iadd, 1) := by decide +kernel
theorem dL_law_544 : decode cL_law 544 = .ok (.iaload, 1) := by decide +kernel
theorem dL_law_545 : decode cL_law 545 = .ok (.invokevirtual 52, 3) := by decide +kernel
theorem dL_law_548 : decode cL_law 548 = .ok (.if_icmp .eq 842, 3) := by decide +kernel
theorem dL_law_551 : decode cL_law 551 = .ok (.iconst 0, 1) := by decide +kernel
theorem dL_law_552 : decode cL_law 552 = .ok (.ireturn, 1) := by decide +kernel
theorem dL_law_553 : decode cL_law 553 = .ok (.aload_n 1, 1) := by decide +kernel
theorem dL_law_554 : decode cL_law 554 = .ok (.aload_n 0, 1) := by decide +kernel
theorem dL_law_555 : decode cL_law 555 = .ok (.iload_n 3, 1) := by decide +kernel
theorem dL_law_556 : decode cL_law 556 = .ok (.iconst 1, 1) := by decide +kernel
theorem dL_law_557 : decode cL_law 557 = .ok (.iadd, 1) := by decide +kernel
theorem dL_law_558 : decode cL_law 558 = .ok (.iaload, 1) := by decide +kernel
theorem dL_law_559 : decode cL_law 559 = .ok (.invokevirtual 53, 3) := by decide +kernel
theorem dL_law_562 : decode cL_law 562 = .ok (.aload_n 2, 1) := by decide +kernel
theorem dL_law_563 : decode cL_law 563 = .ok (.aload_n 0, 1) := by decide +kernel
theorem dL_law_564 : decode cL_law 564 = .ok (.iload_n 3, 1) := by decide +kernel
theorem dL_law_565 : decode cL_law 565 = .ok (.iconst 1, 1) := by decide +kernel
theorem dL_law_566 : decode cL_law 566 = .ok (.iadd, 1) := by decide +kernel
theorem dL_law_567 : decode cL_law 567 = .ok (.iaload, 1) := by decide +kernel
theorem dL_law_568 : decode cL_law 568 = .ok (.invokevirtual 56, 3) := by decide +kernel
theorem dL_law_571 : decode cL_law 571 = .ok (.if_icmp .eq 819, 3) := by decide +kernel
theorem dL_law_574 : decode cL_law 574 = .ok (.iconst 0, 1) := by decide +kernel
theorem dL_law_575 : decode cL_law 575 = .ok (.ireturn, 1) := by decide +kernel
theorem dL_law_576 : decode cL_law 576 = .ok (.aload_n 1, 1) := by decide +kernel
theorem dL_law_577 : decode cL_law 577 = .ok (.aload_n 0, 1) := by decide +kernel
theorem dL_law_578 : decode cL_law 578 = .ok (.iload_n 3, 1) := by decide +kernel
theorem dL_law_579 : decode cL_law 579 = .ok (.iconst 1, 1) := by decide +kernel
theorem dL_law_580 : decode cL_law 580 = .ok (.iadd, 1) := by decide +kernel
theorem dL_law_581 : decode cL_law 581 = .ok (.iaload, 1) := by decide +kernel
theorem dL_law_582 : decode cL_law 582 = .ok (.aload_n 0, 1) := by decide +kernel
theorem dL_law_583 : decode cL_law 583 = .ok (.iload_n 3, 1) := by decide +kernel
theorem dL_law_584 : decode cL_law 584 = .ok (.iconst 2, 1) := by decide +kernel
theorem dL_law_585 : decode cL_law 585 = .ok (.iadd, 1) := by decide +kernel
theorem dL_law_586 : decode cL_law 586 = .ok (.iaload, 1) := by decide +kernel
theorem dL_law_587 : decode cL_law 587 = .ok (.invokevirtual 57, 3) := by decide +kernel
theorem dL_law_590 : decode cL_law 590 = .ok (.aload_n 2, 1) := by decide +kernel
theorem dL_law_591 : decode cL_law 591 = .ok (.aload_n 0, 1) := by decide +kernel
theorem dL_law_592 : decode cL_law 592 = .ok (.iload_n 3, 1) := by decide +kernel
theorem dL_law_593 : decode cL_law 593 = .ok (.iconst 1, 1) := by decide +kernel
theorem dL_law_594 : decode cL_law 594 = .ok (.iadd, 1) := by decide +kernel
theorem dL_law_595 : decode cL_law 595 = .ok (.iaload, 1) := by decide +kernel
theorem dL_law_596 : decode cL_law 596 = .ok (.aload_n 0, 1) := by decide +kernel
theorem dL_law_597 : decode cL_law 597 = .ok (.iload_n 3, 1) := by decide +kernel
theorem dL_law_598 : decode cL_law 598 = .ok (.iconst 2, 1) := by decide +kernel
theorem dL_law_599 : decode cL_law 599 = .ok (.iadd, 1) := by decide +kernel
theorem dL_law_600 : decode cL_law 600 = .ok (.iaload, 1) := by decide +kernel
theorem dL_law_601 : decode cL_law 601 = .ok (.invokevirtual 60, 3) := by decide +kernel
theorem dL_law_604 : decode cL_law 604 = .ok (.if_icmp .eq 786, 3) := by decide +kernel
theorem dL_law_607 : decode cL_law 607 = .ok (.iconst 0, 1) := by decide +kernel
theorem dL_law_608 : decode cL_law 608 = .ok (.ireturn, 1) := by decide +kernel
theorem dL_law_609 : decode cL_law 609 = .ok (.aload_n 1, 1) := by decide +kernel
theorem dL_law_610 : decode cL_law 610 = .ok (.aload_n 0, 1) := by decide +kernel
theorem dL_law_611 : decode cL_law 611 = .ok (.iload_n 3, 1) := by decide +kernel
theorem dL_law_612 : decode cL_law 612 = .ok (.iconst 1, 1) := by decide +kernel
theorem dL_law_613 : decode cL_law 613 = .ok (.iadd, 1) := by decide +kernel
theorem dL_law_614 : decode cL_law 614 = .ok (.iaload, 1) := by decide +kernel
theorem dL_law_615 : decode cL_law 615 = .ok (.aload_n 0, 1) := by decide +kernel
theorem dL_law_616 : decode cL_law 616 = .ok (.iload_n 3, 1) := by decide +kernel
theorem dL_law_617 : decode cL_law 617 = .ok (.iconst 2, 1) := by decide +kernel
theorem dL_law_618 : decode cL_law 618 = .ok (.iadd, 1) := by decide +kernel
theorem dL_law_619 : decode cL_law 619 = .ok (.iaload, 1) := by decide +kernel
theorem dL_law_620 : decode cL_law 620 = .ok (.invokevirtual 61, 3) := by decide +kernel
theorem dL_law_623 : decode cL_law 623 = .ok (.aload_n 2, 1) := by decide +kernel
theorem dL_law_624 : decode cL_law 624 = .ok (.aload_n 0, 1) := by decide +kernel
theorem dL_law_625 : decode cL_law 625 = .ok (.iload_n 3, 1) := by decide +kernel
theorem dL_law_626 : decode cL_law 626 = .ok (.iconst 1, 1) := by decide +kernel
theorem dL_law_627 : decode cL_law 627 = .ok (.iadd, 1) := by decide +kernel
theorem dL_law_628 : decode cL_law 628 = .ok (.iaload, 1) := by decide +kernel
theorem dL_law_629 : decode cL_law 629 = .ok (.aload_n 0, 1) := by decide +kernel
theorem dL_law_630 : decode cL_law 630 = .ok (.iload_n 3, 1) := by decide +kernel
theorem dL_law_631 : decode cL_law 631 = .ok (.iconst 2, 1) := by decide +kernel
theorem dL_law_632 : decode cL_law 632 = .ok (.iadd, 1) := by decide +kernel
theorem dL_law_633 : decode cL_law 633 = .ok (.iaload, 1) := by decide +kernel
theorem dL_law_634 : decode cL_law 634 = .ok (.invokevirtual 64, 3) := by decide +kernel
theorem dL_law_637 : decode cL_law 637 = .ok (.if_icmp .eq 753, 3) := by decide +kernel
theorem dL_law_640 : decode cL_law 640 = .ok (.iconst 0, 1) := by decide +kernel
theorem dL_law_641 : decode cL_law 641 = .ok (.ireturn, 1) := by decide +kernel
theorem dL_law_642 : decode cL_law 642 = .ok (.aload_n 1, 1) := by decide +kernel
theorem dL_law_643 : decode cL_law 643 = .ok (.aload_n 0, 1) := by decide +kernel
theorem dL_law_644 : decode cL_law 644 = .ok (.iload_n 3, 1) := by decide +kernel
theorem dL_law_645 : decode cL_law 645 = .ok (.iconst 1, 1) := by decide +kernel
theorem dL_law_646 : decode cL_law 646 = .ok (.iadd, 1) := by decide +kernel
theorem dL_law_647 : decode cL_law 647 = .ok (.iaload, 1) := by decide +kernel
theorem dL_law_648 : decode cL_law 648 = .ok (.aload_n 0, 1) := by decide +kernel
theorem dL_law_649 : decode cL_law 649 = .ok (.iload_n 3, 1) := by decide +kernel
theorem dL_law_650 : decode cL_law 650 = .ok (.iconst 2, 1) := by decide +kernel
theorem dL_law_651 : decode cL_law 651 = .ok (.iadd, 1) := by decide +kernel
theorem dL_law_652 : decode cL_law 652 = .ok (.iaload, 1) := by decide +kernel
theorem dL_law_653 : decode cL_law 653 = .ok (.invokevirtual 65, 3) := by decide +kernel
theorem dL_law_656 : decode cL_law 656 = .ok (.aload_n 2, 1) := by decide +kernel
theorem dL_law_657 : decode cL_law 657 = .ok (.aload_n 0, 1) := by decide +kernel
theorem dL_law_658 : decode cL_law 658 = .ok (.iload_n 3, 1) := by decide +kernel
theorem dL_law_659 : decode cL_law 659 = .ok (.iconst 1, 1) := by decide +kernel
theorem dL_law_660 : decode cL_law 660 = .ok (.iadd, 1) := by decide +kernel
theorem dL_law_661 : decode cL_law 661 = .ok (.iaload, 1) := by decide +kernel
theorem dL_law_662 : decode cL_law 662 = .ok (.aload_n 0, 1) := by decide +kernel
theorem dL_law_663 : decode cL_law 663 = .ok (.iload_n 3, 1) := by decide +kernel
theorem dL_law_664 : decode cL_law 664 = .ok (.iconst 2, 1) := by decide +kernel
theorem dL_law_665 : decode cL_law 665 = .ok (.iadd, 1) := by decide +kernel
theorem dL_law_666 : decode cL_law 666 = .ok (.iaload, 1) := by decide +kernel
theorem dL_law_667 : decode cL_law 667 = .ok (.invokevirtual 68, 3) := by decide +kernel
theorem dL_law_670 : decode cL_law 670 = .ok (.if_icmp .eq 720, 3) := by decide +kernel
theorem dL_law_673 : decode cL_law 673 = .ok (.iconst 0, 1) := by decide +kernel
theorem dL_law_674 : decode cL_law 674 = .ok (.ireturn, 1) := by decide +kernel
theorem dL_law_675 : decode cL_law 675 = .ok (.aload_n 1, 1) := by decide +kernel
theorem dL_law_676 : decode cL_law 676 = .ok (.aload_n 0, 1) := by decide +kernel
theorem dL_law_677 : decode cL_law 677 = .ok (.iload_n 3, 1) := by decide +kernel
theorem dL_law_678 : decode cL_law 678 = .ok (.iconst 1, 1) := by decide +kernel
theorem dL_law_679 : decode cL_law 679 = .ok (.iadd, 1) := by decide +kernel
theorem dL_law_680 : decode cL_law 680 = .ok (.iaload, 1) := by decide +kernel
theorem dL_law_681 : decode cL_law 681 = .ok (.invokevirtual 69, 3) := by decide +kernel
theorem dL_law_684 : decode cL_law 684 = .ok (.aload_n 2, 1) := by decide +kernel
theorem dL_law_685 : decode cL_law 685 = .ok (.aload_n 0, 1) := by decide +kernel
theorem dL_law_686 : decode cL_law 686 = .ok (.iload_n 3, 1) := by decide +kernel
theorem dL_law_687 : decode cL_law 687 = .ok (.iconst 1, 1) := by decide +kernel
theorem dL_law_688 : decode cL_law 688 = .ok (.iadd, 1) := by decide +kernel
theorem dL_law_689 : decode cL_law 689 = .ok (.iaload, 1) := by decide +kernel
theorem dL_law_690 : decode cL_law 690 = .ok (.invokevirtual 72, 3) := by decide +kernel
theorem dL_law_693 : decode cL_law 693 = .ok (.if_icmp .eq 697, 3) := by decide +kernel
theorem dL_law_696 : decode cL_law 696 = .ok (.iconst 0, 1) := by decide +kernel
theorem dL_law_697 : decode cL_law 697 = .ok (.ireturn, 1) := by decide +kernel
theorem dL_law_698 : decode cL_law 698 = .ok (.aload_n 1, 1) := by decide +kernel
theorem dL_law_699 : decode cL_law 699 = .ok (.aload_n 0, 1) := by decide +kernel
theorem dL_law_700 : decode cL_law 700 = .ok (.iload_n 3, 1) := by decide +kernel
theorem dL_law_701 : decode cL_law 701 = .ok (.iconst 1, 1) := by decide +kernel
theorem dL_law_702 : decode cL_law 702 = .ok (.iadd, 1) := by decide +kernel
theorem dL_law_703 : decode cL_law 703 = .ok (.iaload, 1) := by decide +kernel
theorem dL_law_704 : decode cL_law 704 = .ok (.aload_n 0, 1) := by decide +kernel
theorem dL_law_705 : decode cL_law 705 = .ok (.iload_n 3, 1) := by decide +kernel
theorem dL_law_706 : decode cL_law 706 = .ok (.iconst 2, 1) := by decide +kernel
theorem dL_law_707 : decode cL_law 707 = .ok (.iadd, 1) := by decide +kernel
theorem dL_law_708 : decode cL_law 708 = .ok (.iaload, 1) := by decide +kernel
theorem dL_law_709 : decode cL_law 709 = .ok (.aload_n 0, 1) := by decide +kernel
theorem dL_law_710 : decode cL_law 710 = .ok (.iload_n 3, 1) := by decide +kernel
theorem dL_law_711 : decode cL_law 711 = .ok (.iconst 3, 1) := by decide +kernel
theorem dL_law_712 : decode cL_law 712 = .ok (.iadd, 1) := by decide +kernel
theorem dL_law_713 : decode cL_law 713 = .ok (.iaload, 1) := by decide +kernel
theorem dL_law_714 : decode cL_law 714 = .ok (.invokevirtual 73, 3) := by decide +kernel
theorem dL_law_717 : decode cL_law 717 = .ok (.aload_n 2, 1) := by decide +kernel
theorem dL_law_718 : decode cL_law 718 = .ok (.aload_n 0, 1) := by decide +kernel
theorem dL_law_719 : decode cL_law 719 = .ok (.iload_n 3, 1) := by decide +kernel
theorem dL_law_720 : decode cL_law 720 = .ok (.iconst 1, 1) := by decide +kernel
theorem dL_law_721 : decode cL_law 721 = .ok (.iadd, 1) := by decide +kernel
theorem dL_law_722 : decode cL_law 722 = .ok (.iaload, 1) := by decide +kernel
theorem dL_law_723 : decode cL_law 723 = .ok (.aload_n 0, 1) := by decide +kernel
theorem dL_law_724 : decode cL_law 724 = .ok (.iload_n 3, 1) := by decide +kernel
theorem dL_law_725 : decode cL_law 725 = .ok (.iconst 2, 1) := by decide +kernel
theorem dL_law_726 : decode cL_law 726 = .ok (.iadd, 1) := by decide +kernel
theorem dL_law_727 : decode cL_law 727 = .ok (.iaload, 1) := by decide +kernel
theorem dL_law_728 : decode cL_law 728 = .ok (.aload_n 0, 1) := by decide +kernel
theorem dL_law_729 : decode cL_law 729 = .ok (.iload_n 3, 1) := by decide +kernel
theorem dL_law_730 : decode cL_law 730 = .ok (.iconst 3, 1) := by decide +kernel
theorem dL_law_731 : decode cL_law 731 = .ok (.iadd, 1) := by decide +kernel
theorem dL_law_732 : decode cL_law 732 = .ok (.iaload, 1) := by decide +kernel
theorem dL_law_733 : decode cL_law 733 = .ok (.invokevirtual 76, 3) := by decide +kernel
theorem dL_law_736 : decode cL_law 736 = .ok (.if_icmp .eq 654, 3) := by decide +kernel
theorem dL_law_739 : decode cL_law 739 = .ok (.iconst 0, 1) := by decide +kernel
theorem dL_law_740 : decode cL_law 740 = .ok (.ireturn, 1) := by decide +kernel
theorem dL_law_741 : decode cL_law 741 = .ok (.aload_n 1, 1) := by decide +kernel
theorem dL_law_742 : decode cL_law 742 = .ok (.invokevirtual 77, 3) := by decide +kernel
theorem dL_law_745 : decode cL_law 745 = .ok (.aload_n 2, 1) := by decide +kernel
theorem dL_law_746 : decode cL_law 746 = .ok (.invokevirtual 81, 3) := by decide +kernel
theorem dL_law_749 : decode cL_law 749 = .ok (.if_icmp .eq 641, 3) := by decide +kernel
theorem dL_law_752 : decode cL_law 752 = .ok (.iconst 0, 1) := by decide +kernel
theorem dL_law_753 : decode cL_law 753 = .ok (.ireturn, 1) := by decide +kernel
theorem dL_law_754 : decode cL_law 754 = .ok (.aload_n 1, 1) := by decide +kernel
theorem dL_law_755 : decode cL_law 755 = .ok (.aload_n 0, 1) := by decide +kernel
theorem dL_law_756 : decode cL_law 756 = .ok (.iload_n 3, 1) := by decide +kernel
theorem dL_law_757 : decode cL_law 757 = .ok (.iconst 1, 1) := by decide +kernel
theorem dL_law_758 : decode cL_law 758 = .ok (.iadd, 1) := by decide +kernel
theorem dL_law_759 : decode cL_law 759 = .ok (.iaload, 1) := by decide +kernel
theorem dL_law_760 : decode cL_law 760 = .ok (.aload_n 0, 1) := by decide +kernel
theorem dL_law_761 : decode cL_law 761 = .ok (.iload_n 3, 1) := by decide +kernel
theorem dL_law_762 : decode cL_law 762 = .ok (.iconst 2, 1) := by decide +kernel
theorem dL_law_763 : decode cL_law 763 = .ok (.iadd, 1) := by decide +kernel
theorem dL_law_764 : decode cL_law 764 = .ok (.iaload, 1) := by decide +kernel
theorem dL_law_765 : decode cL_law 765 = .ok (.invokevirtual 82, 3) := by decide +kernel
theorem dL_law_768 : decode cL_law 768 = .ok (.aload_n 2, 1) := by decide +kernel
theorem dL_law_769 : decode cL_law 769 = .ok (.aload_n 0, 1) := by decide +kernel
theorem dL_law_770 : decode cL_law 770 = .ok (.iload_n 3, 1) := by decide +kernel
theorem dL_law_771 : decode cL_law 771 = .ok (.iconst 1, 1) := by decide +kernel
theorem dL_law_772 : decode cL_law 772 = .ok (.iadd, 1) := by decide +kernel
theorem dL_law_773 : decode cL_law 773 = .ok (.iaload, 1) := by decide +kernel
theorem dL_law_774 : decode cL_law 774 = .ok (.aload_n 0, 1) := by decide +kernel
theorem dL_law_775 : decode cL_law 775 = .ok (.iload_n 3, 1) := by decide +kernel
theorem dL_law_776 : decode cL_law 776 = .ok (.iconst 2, 1) := by decide +kernel
theorem dL_law_777 : decode cL_law 777 = .ok (.iadd, 1) := by decide +kernel
theorem dL_law_778 : decode cL_law 778 = .ok (.iaload, 1) := by decide +kernel
theorem dL_law_779 : decode cL_law 779 = .ok (.invokevirtual 85, 3) := by decide +kernel
theorem dL_law_782 : decode cL_law 782 = .ok (.if_icmp .eq 608, 3) := by decide +kernel
theorem dL_law_785 : decode cL_law 785 = .ok (.iconst 0, 1) := by decide +kernel
theorem dL_law_786 : decode cL_law 786 = .ok (.ireturn, 1) := by decide +kernel
theorem dL_law_787 : decode cL_law 787 = .ok (.aload_n 1, 1) := by decide +kernel
theorem dL_law_788 : decode cL_law 788 = .ok (.aload_n 0, 1) := by decide +kernel
theorem dL_law_789 : decode cL_law 789 = .ok (.iload_n 3, 1) := by decide +kernel
theorem dL_law_790 : decode cL_law 790 = .ok (.iconst 1, 1) := by decide +kernel
theorem dL_law_791 : decode cL_law 791 = .ok (.iadd, 1) := by decide +kernel
theorem dL_law_792 : decode cL_law 792 = .ok (.iaload, 1) := by decide +kernel
theorem dL_law_793 : decode cL_law 793 = .ok (.invokevirtual 86, 3) := by decide +kernel
theorem dL_law_796 : decode cL_law 796 = .ok (.aload_n 2, 1) := by decide +kernel
theorem dL_law_797 : decode cL_law 797 = .ok (.aload_n 0, 1) := by decide +kernel
theorem dL_law_798 : decode cL_law 798 = .ok (.iload_n 3, 1) := by decide +kernel
theorem dL_law_799 : decode cL_law 799 = .ok (.iconst 1, 1) := by decide +kernel
theorem dL_law_800 : decode cL_law 800 = .ok (.iadd, 1) := by decide +kernel
theorem dL_law_801 : decode cL_law 801 = .ok (.iaload, 1) := by decide +kernel
theorem dL_law_802 : decode cL_law 802 = .ok (.invokevirtual 89, 3) := by decide +kernel
theorem dL_law_805 : decode cL_law 805 = .ok (.if_icmp .eq 585, 3) := by decide +kernel
theorem dL_law_808 : decode cL_law 808 = .ok (.iconst 0, 1) := by decide +kernel
theorem dL_law_809 : decode cL_law 809 = .ok (.ireturn, 1) := by decide +kernel
theorem dL_law_810 : decode cL_law 810 = .ok (.aload_n 1, 1) := by decide +kernel
theorem dL_law_811 : decode cL_law 811 = .ok (.aload_n 0, 1) := by decide +kernel
theorem dL_law_812 : decode cL_law 812 = .ok (.iload_n 3, 1) := by decide +kernel
theorem dL_law_813 : decode cL_law 813 = .ok (.iconst 1, 1) := by decide +kernel
theorem dL_law_814 : decode cL_law 814 = .ok (.iadd, 1) := by decide +kernel
theorem dL_law_815 : decode cL_law 815 = .ok (.iaload, 1) := by decide +kernel
theorem dL_law_816 : decode cL_law 816 = .ok (.invokevirtual 90, 3) := by decide +kernel
theorem dL_law_819 : decode cL_law 819 = .ok (.aload_n 2, 1) := by decide +kernel
theorem dL_law_820 : decode cL_law 820 = .ok (.aload_n 0, 1) := by decide +kernel
theorem dL_law_821 : decode cL_law 821 = .ok (.iload_n 3, 1) := by decide +kernel
theorem dL_law_822 : decode cL_law 822 = .ok (.iconst 1, 1) := by decide +kernel
theorem dL_law_823 : decode cL_law 823 = .ok (.iadd, 1) := by decide +kernel
theorem dL_law_824 : decode cL_law 824 = .ok (.iaload, 1) := by decide +kernel
theorem dL_law_825 : decode cL_law 825 = .ok (.invokevirtual 93, 3) := by decide +kernel
theorem dL_law_828 : decode cL_law 828 = .ok (.if_icmp .eq 562, 3) := by decide +kernel
theorem dL_law_831 : decode cL_law 831 = .ok (.iconst 0, 1) := by decide +kernel
theorem dL_law_832 : decode cL_law 832 = .ok (.ireturn, 1) := by decide +kernel
theorem dL_law_833 : decode cL_law 833 = .ok (.aload_n 1, 1) := by decide +kernel
theorem dL_law_834 : decode cL_law 834 = .ok (.aload_n 0, 1) := by decide +kernel
theorem dL_law_835 : decode cL_law 835 = .ok (.iload_n 3, 1) := by decide +kernel
theorem dL_law_836 : decode cL_law 836 = .ok (.iconst 1, 1) := by decide +kernel
theorem dL_law_837 : decode cL_law 837 = .ok (.iadd, 1) := by decide +kernel
theorem dL_law_838 : decode cL_law 838 = .ok (.iaload, 1) := by decide +kernel
theorem dL_law_839 : decode cL_law 839 = .ok (.invokevirtual 94, 3) := by decide +kernel
theorem dL_law_842 : decode cL_law 842 = .ok (.aload_n 2, 1) := by decide +kernel
theorem dL_law_843 : decode cL_law 843 = .ok (.aload_n 0, 1) := by decide +kernel
theorem dL_law_844 : decode cL_law 844 = .ok (.iload_n 3, 1) := by decide +kernel
theorem dL_law_845 : decode cL_law 845 = .ok (.iconst 1, 1) := by decide +kernel
theorem dL_law_846 : decode cL_law 846 = .ok (.iadd, 1) := by decide +kernel
theorem dL_law_847 : decode cL_law 847 = .ok (.iaload, 1) := by decide +kernel
theorem dL_law_848 : decode cL_law 848 = .ok (.invokevirtual 97, 3) := by decide +kernel
theorem dL_law_851 : decode cL_law 851 = .ok (.if_icmp .eq 539, 3) := by decide +kernel
theorem dL_law_854 : decode cL_law 854 = .ok (.iconst 0, 1) := by decide +kernel
theorem dL_law_855 : decode cL_law 855 = .ok (.ireturn, 1) := by decide +kernel
theorem dL_law_856 : decode cL_law 856 = .ok (.aload_n 1, 1) := by decide +kernel
theorem dL_law_857 : decode cL_law 857 = .ok (.aload_n 0, 1) := by decide +kernel
theorem dL_law_858 : decode cL_law 858 = .ok (.iload_n 3, 1) := by decide +kernel
theorem dL_law_859 : decode cL_law 859 = .ok (.iconst 1, 1) := by decide +kernel
theorem dL_law_860 : decode cL_law 860 = .ok (.iadd, 1) := by decide +kernel
theorem dL_law_861 : decode cL_law 861 = .ok (.iaload, 1) := by decide +kernel
theorem dL_law_862 : decode cL_law 862 = .ok (.invokevirtual 98, 3) := by decide +kernel
theorem dL_law_865 : decode cL_law 865 = .ok (.aload_n 2, 1) := by decide +kernel
theorem dL_law_866 : decode cL_law 866 = .ok (.aload_n 0, 1) := by decide +kernel
theorem dL_law_867 : decode cL_law 867 = .ok (.iload_n 3, 1) := by decide +kernel
theorem dL_law_868 : decode cL_law 868 = .ok (.iconst 1, 1) := by decide +kernel
theorem dL_law_869 : decode cL_law 869 = .ok (.iadd, 1) := by decide +kernel
theorem dL_law_870 : decode cL_law 870 = .ok (.iaload, 1) := by decide +kernel
theorem dL_law_871 : decode cL_law 871 = .ok (.invokevirtual 101, 3) := by decide +kernel
theorem dL_law_874 : decode cL_law 874 = .ok (.if_icmp .eq 516, 3) := by decide +kernel
theorem dL_law_877 : decode cL_law 877 = .ok (.iconst 0, 1) := by decide +kernel
theorem dL_law_878 : decode cL_law 878 = .ok (.ireturn, 1) := by decide +kernel
theorem dL_law_879 : decode cL_law 879 = .ok (.aload_n 1, 1) := by decide +kernel
theorem dL_law_880 : decode cL_law 880 = .ok (.aload_n 0, 1) := by decide +kernel
theorem dL_law_881 : decode cL_law 881 = .ok (.iload_n 3, 1) := by decide +kernel
theorem dL_law_882 : decode cL_law 882 = .ok (.iconst 1, 1) := by decide +kernel
theorem dL_law_883 : decode cL_law 883 = .ok (.iadd, 1) := by decide +kernel
theorem dL_law_884 : decode cL_law 884 = .ok (.iaload, 1) := by decide +kernel
theorem dL_law_885 : decode cL_law 885 = .ok (.invokevirtual 102, 3) := by decide +kernel
theorem dL_law_888 : decode cL_law 888 = .ok (.aload_n 2, 1) := by decide +kernel
theorem dL_law_889 : decode cL_law 889 = .ok (.aload_n 0, 1) := by decide +kernel
theorem dL_law_890 : decode cL_law 890 = .ok (.iload_n 3, 1) := by decide +kernel
theorem dL_law_891 : decode cL_law 891 = .ok (.iconst 1, 1) := by decide +kernel
theorem dL_law_892 : decode cL_law 892 = .ok (.iadd, 1) := by decide +kernel
theorem dL_law_893 : decode cL_law 893 = .ok (.iaload, 1) := by decide +kernel
theorem dL_law_894 : decode cL_law 894 = .ok (.invokevirtual 105, 3) := by decide +kernel
theorem dL_law_897 : decode cL_law 897 = .ok (.if_icmp .eq 493, 3) := by decide +kernel
theorem dL_law_900 : decode cL_law 900 = .ok (.iconst 0, 1) := by decide +kernel
theorem dL_law_901 : decode cL_law 901 = .ok (.ireturn, 1) := by decide +kernel
theorem dL_law_902 : decode cL_law 902 = .ok (.aload_n 1, 1) := by decide +kernel
theorem dL_law_903 : decode cL_law 903 = .ok (.invokevirtual 106, 3) := by decide +kernel
theorem dL_law_906 : decode cL_law 906 = .ok (.aload_n 2, 1) := by decide +kernel
theorem dL_law_907 : decode cL_law 907 = .ok (.invokevirtual 109, 3) := by decide +kernel
theorem dL_law_910 : decode cL_law 910 = .ok (.if_icmp .eq 480, 3) := by decide +kernel
theorem dL_law_913 : decode cL_law 913 = .ok (.iconst 0, 1) := by decide +kernel
theorem dL_law_914 : decode cL_law 914 = .ok (.ireturn, 1) := by decide +kernel
theorem dL_law_915 : decode cL_law 915 = .ok (.aload_n 1, 1) := by decide +kernel
theorem dL_law_916 : decode cL_law 916 = .ok (.aload_n 0, 1) := by decide +kernel
theorem dL_law_917 : decode cL_law 917 = .ok (.iload_n 3, 1) := by decide +kernel
theorem dL_law_918 : decode cL_law 918 = .ok (.iconst 1, 1) := by decide +kernel
theorem dL_law_919 : decode cL_law 919 = .ok (.iadd, 1) := by decide +kernel
theorem dL_law_920 : decode cL_law 920 = .ok (.iaload, 1) := by decide +kernel
theorem dL_law_921 : decode cL_law 921 = .ok (.invokevirtual 110, 3) := by decide +kernel
theorem dL_law_924 : decode cL_law 924 = .ok (.aload_n 2, 1) := by decide +kernel
theorem dL_law_925 : decode cL_law 925 = .ok (.aload_n 0, 1) := by decide +kernel
theorem dL_law_926 : decode cL_law 926 = .ok (.iload_n 3, 1) := by decide +kernel
theorem dL_law_927 : decode cL_law 927 = .ok (.iconst 1, 1) := by decide +kernel
theorem dL_law_928 : decode cL_law 928 = .ok (.iadd, 1) := by decide +kernel
theorem dL_law_929 : decode cL_law 929 = .ok (.iaload, 1) := by decide +kernel
theorem dL_law_930 : decode cL_law 930 = .ok (.invokevirtual 113, 3) := by decide +kernel
theorem dL_law_933 : decode cL_law 933 = .ok (.if_icmp .eq 457, 3) := by decide +kernel
theorem dL_law_936 : decode cL_law 936 = .ok (.iconst 0, 1) := by decide +kernel
theorem dL_law_937 : decode cL_law 937 = .ok (.ireturn, 1) := by decide +kernel
theorem dL_law_938 : decode cL_law 938 = .ok (.aload_n 1, 1) := by decide +kernel
theorem dL_law_939 : decode cL_law 939 = .ok (.invokevirtual 114, 3) := by decide +kernel
theorem dL_law_942 : decode cL_law 942 = .ok (.aload_n 2, 1) := by decide +kernel
theorem dL_law_943 : decode cL_law 943 = .ok (.invokevirtual 117, 3) := by decide +kernel
theorem dL_law_946 : decode cL_law 946 = .ok (.if_icmp .eq 444, 3) := by decide +kernel
theorem dL_law_949 : decode cL_law 949 = .ok (.iconst 0, 1) := by decide +kernel
theorem dL_law_950 : decode cL_law 950 = .ok (.ireturn, 1) := by decide +kernel
theorem dL_law_951 : decode cL_law 951 = .ok (.aload_n 1, 1) := by decide +kernel
theorem dL_law_952 : decode cL_law 952 = .ok (.aload_n 0, 1) := by decide +kernel
theorem dL_law_953 : decode cL_law 953 = .ok (.iload_n 3, 1) := by decide +kernel
theorem dL_law_954 : decode cL_law 954 = .ok (.iconst 1, 1) := by decide +kernel
theorem dL_law_955 : decode cL_law 955 = .ok (.iadd, 1) := by decide +kernel
theorem dL_law_956 : decode cL_law 956 = .ok (.iaload, 1) := by decide +kernel
theorem dL_law_957 : decode cL_law 957 = .ok (.invokevirtual 118, 3) := by decide +kernel
theorem dL_law_960 : decode cL_law 960 = .ok (.aload_n 2, 1) := by decide +kernel
theorem dL_law_961 : decode cL_law 961 = .ok (.aload_n 0, 1) := by decide +kernel
theorem dL_law_962 : decode cL_law 962 = .ok (.iload_n 3, 1) := by decide +kernel
theorem dL_law_963 : decode cL_law 963 = .ok (.iconst 1, 1) := by decide +kernel
theorem dL_law_964 : decode cL_law 964 = .ok (.iadd, 1) := by decide +kernel
theorem dL_law_965 : decode cL_law 965 = .ok (.iaload, 1) := by decide +kernel
theorem dL_law_966 : decode cL_law 966 = .ok (.invokevirtual 121, 3) := by decide +kernel
theorem dL_law_969 : decode cL_law 969 = .ok (.if_icmp .eq 421, 3) := by decide +kernel
theorem dL_law_972 : decode cL_law 972 = .ok (.iconst 0, 1) := by decide +kernel
theorem dL_law_973 : decode cL_law 973 = .ok (.ireturn, 1) := by decide +kernel
theorem dL_law_974 : decode cL_law 974 = .ok (.aload_n 1, 1) := by decide +kernel
theorem dL_law_975 : decode cL_law 975 = .ok (.aload_n 0, 1) := by decide +kernel
theorem dL_law_976 : decode cL_law 976 = .ok (.iload_n 3, 1) := by decide +kernel
theorem dL_law_977 : decode cL_law 977 = .ok (.iconst 1, 1) := by decide +kernel
theorem dL_law_978 : decode cL_law 978 = .ok (.iadd, 1) := by decide +kernel
theorem dL_law_979 : decode cL_law 979 = .ok (.iaload, 1) := by decide +kernel
theorem dL_law_980 : decode cL_law 980 = .ok (.aload_n 0, 1) := by decide +kernel
theorem dL_law_981 : decode cL_law 981 = .ok (.iload_n 3, 1) := by decide +kernel
theorem dL_law_982 : decode cL_law 982 = .ok (.iconst 2, 1) := by decide +kernel
theorem dL_law_983 : decode cL_law 983 = .ok (.iadd, 1) := by decide +kernel
theorem dL_law_984 : decode cL_law 984 = .ok (.iaload, 1) := by decide +kernel
theorem dL_law_985 : decode cL_law 985 = .ok (.invokevirtual 122, 3) := by decide +kernel
theorem dL_law_988 : decode cL_law 988 = .ok (.aload_n 2, 1) := by decide +kernel
theorem dL_law_989 : decode cL_law 989 = .ok (.aload_n 0, 1) := by decide +kernel
theorem dL_law_990 : decode cL_law 990 = .ok (.iload_n 3, 1) := by decide +kernel
theorem dL_law_991 : decode cL_law 991 = .ok (.iconst 1, 1) := by decide +kernel
theorem dL_law_992 : decode cL_law 992 = .ok (.iadd, 1) := by decide +kernel
theorem dL_law_993 : decode cL_law 993 = .ok (.iaload, 1) := by decide +kernel
theorem dL_law_994 : decode cL_law 994 = .ok (.aload_n 0, 1) := by decide +kernel
theorem dL_law_995 : decode cL_law 995 = .ok (.iload_n 3, 1) := by decide +kernel
theorem dL_law_996 : decode cL_law 996 = .ok (.iconst 2, 1) := by decide +kernel
theorem dL_law_997 : decode cL_law 997 = .ok (.iadd, 1) := by decide +kernel
theorem dL_law_998 : decode cL_law 998 = .ok (.iaload, 1) := by decide +kernel
theorem dL_law_999 : decode cL_law 999 = .ok (.invokevirtual 125, 3) := by decide +kernel
theorem dL_law_1002 : decode cL_law 1002 = .ok (.if_icmp .eq 388, 3) := by decide +kernel
theorem dL_law_1005 : decode cL_law 1005 = .ok (.iconst 0, 1) := by decide +kernel
theorem dL_law_1006 : decode cL_law 1006 = .ok (.ireturn, 1) := by decide +kernel
theorem dL_law_1007 : decode cL_law 1007 = .ok (.aload_n 1, 1) := by decide +kernel
theorem dL_law_1008 : decode cL_law 1008 = .ok (.invokevirtual 126, 3) := by decide +kernel
theorem dL_law_1011 : decode cL_law 1011 = .ok (.aload_n 2, 1) := by decide +kernel
theorem dL_law_1012 : decode cL_law 1012 = .ok (.invokevirtual 129, 3) := by decide +kernel
theorem dL_law_1015 : decode cL_law 1015 = .ok (.if_icmp .eq 375, 3) := by decide +kernel
theorem dL_law_1018 : decode cL_law 1018 = .ok (.iconst 0, 1) := by decide +kernel
theorem dL_law_1019 : decode cL_law 1019 = .ok (.ireturn, 1) := by decide +kernel
theorem dL_law_1020 : decode cL_law 1020 = .ok (.aload_n 1, 1) := by decide +kernel
theorem dL_law_1021 : decode cL_law 1021 = .ok (.aload_n 0, 1) := by decide +kernel
theorem dL_law_1022 : decode cL_law 1022 = .ok (.iload_n 3, 1) := by decide +kernel
theorem dL_law_1023 : decode cL_law 1023 = .ok (.iconst 1, 1) := by decide +kernel
theorem dL_law_1024 : decode cL_law 1024 = .ok (.iadd, 1) := by decide +kernel
theorem dL_law_1025 : decode cL_law 1025 = .ok (.iaload, 1) := by decide +kernel
theorem dL_law_1026 : decode cL_law 1026 = .ok (.invokevirtual 130, 3) := by decide +kernel
theorem dL_law_1029 : decode cL_law 1029 = .ok (.aload_n 2, 1) := by decide +kernel
theorem dL_law_1030 : decode cL_law 1030 = .ok (.aload_n 0, 1) := by decide +kernel
theorem dL_law_1031 : decode cL_law 1031 = .ok (.iload_n 3, 1) := by decide +kernel
theorem dL_law_1032 : decode cL_law 1032 = .ok (.iconst 1, 1) := by decide +kernel
theorem dL_law_1033 : decode cL_law 1033 = .ok (.iadd, 1) := by decide +kernel
theorem dL_law_1034 : decode cL_law 1034 = .ok (.iaload, 1) := by decide +kernel
theorem dL_law_1035 : decode cL_law 1035 = .ok (.invokevirtual 133, 3) := by decide +kernel
theorem dL_law_1038 : decode cL_law 1038 = .ok (.if_icmp .eq 352, 3) := by decide +kernel
theorem dL_law_1041 : decode cL_law 1041 = .ok (.iconst 0, 1) := by decide +kernel
theorem dL_law_1042 : decode cL_law 1042 = .ok (.ireturn, 1) := by decide +kernel
theorem dL_law_1043 : decode cL_law 1043 = .ok (.aload_n 1, 1) := by decide +kernel
theorem dL_law_1044 : decode cL_law 1044 = .ok (.invokevirtual 134, 3) := by decide +kernel
theorem dL_law_1047 : decode cL_law 1047 = .ok (.aload_n 2, 1) := by decide +kernel
theorem dL_law_1048 : decode cL_law 1048 = .ok (.invokevirtual 137, 3) := by decide +kernel
theorem dL_law_1051 : decode cL_law 1051 = .ok (.if_icmp .eq 339, 3) := by decide +kernel
theorem dL_law_1054 : decode cL_law 1054 = .ok (.iconst 0, 1) := by decide +kernel
theorem dL_law_1055 : decode cL_law 1055 = .ok (.ireturn, 1) := by decide +kernel
theorem dL_law_1056 : decode cL_law 1056 = .ok (.aload_n 1, 1) := by decide +kernel
theorem dL_law_1057 : decode cL_law 1057 = .ok (.invokevirtual 138, 3) := by decide +kernel
theorem dL_law_1060 : decode cL_law 1060 = .ok (.aload_n 2, 1) := by decide +kernel
theorem dL_law_1061 : decode cL_law 1061 = .ok (.invokevirtual 141, 3) := by decide +kernel
theorem dL_law_1064 : decode cL_law 1064 = .ok (.if_icmp .eq 326, 3) := by decide +kernel
theorem dL_law_1067 : decode cL_law 1067 = .ok (.iconst 0, 1) := by decide +kernel
theorem dL_law_1068 : decode cL_law 1068 = .ok (.ireturn, 1) := by decide +kernel
theorem dL_law_1069 : decode cL_law 1069 = .ok (.aload_n 1, 1) := by decide +kernel
theorem dL_law_1070 : decode cL_law 1070 = .ok (.invokevirtual 142, 3) := by decide +kernel
theorem dL_law_1073 : decode cL_law 1073 = .ok (.aload_n 2, 1) := by decide +kernel
theorem dL_law_1074 : decode cL_law 1074 = .ok (.invokevirtual 145, 3) := by decide +kernel
theorem dL_law_1077 : decode cL_law 1077 = .ok (.if_icmp .eq 313, 3) := by decide +kernel
theorem dL_law_1080 : decode cL_law 1080 = .ok (.iconst 0, 1) := by decide +kernel
theorem dL_law_1081 : decode cL_law 1081 = .ok (.ireturn, 1) := by decide +kernel
theorem dL_law_1082 : decode cL_law 1082 = .ok (.aload_n 1, 1) := by decide +kernel
theorem dL_law_1083 : decode cL_law 1083 = .ok (.aload_n 0, 1) := by decide +kernel
theorem dL_law_1084 : decode cL_law 1084 = .ok (.iload_n 3, 1) := by decide +kernel
theorem dL_law_1085 : decode cL_law 1085 = .ok (.iconst 1, 1) := by decide +kernel
theorem dL_law_1086 : decode cL_law 1086 = .ok (.iadd, 1) := by decide +kernel
theorem dL_law_1087 : decode cL_law 1087 = .ok (.iaload, 1) := by decide +kernel
theorem dL_law_1088 : decode cL_law 1088 = .ok (.aload_n 0, 1) := by decide +kernel
theorem dL_law_1089 : decode cL_law 1089 = .ok (.iload_n 3, 1) := by decide +kernel
theorem dL_law_1090 : decode cL_law 1090 = .ok (.iconst 2, 1) := by decide +kernel
theorem dL_law_1091 : decode cL_law 1091 = .ok (.iadd, 1) := by decide +kernel
theorem dL_law_1092 : decode cL_law 1092 = .ok (.iaload, 1) := by decide +kernel
theorem dL_law_1093 : decode cL_law 1093 = .ok (.invokevirtual 146, 3) := by decide +kernel
theorem dL_law_1096 : decode cL_law 1096 = .ok (.aload_n 2, 1) := by decide +kernel
theorem dL_law_1097 : decode cL_law 1097 = .ok (.aload_n 0, 1) := by decide +kernel
theorem dL_law_1098 : decode cL_law 1098 = .ok (.iload_n 3, 1) := by decide +kernel
theorem dL_law_1099 : decode cL_law 1099 = .ok (.iconst 1, 1) := by decide +kernel
theorem dL_law_1100 : decode cL_law 1100 = .ok (.iadd, 1) := by decide +kernel
theorem dL_law_1101 : decode cL_law 1101 = .ok (.iaload, 1) := by decide +kernel
theorem dL_law_1102 : decode cL_law 1102 = .ok (.aload_n 0, 1) := by decide +kernel
theorem dL_law_1103 : decode cL_law 1103 = .ok (.iload_n 3, 1) := by decide +kernel
theorem dL_law_1104 : decode cL_law 1104 = .ok (.iconst 2, 1) := by decide +kernel
theorem dL_law_1105 : decode cL_law 1105 = .ok (.iadd, 1) := by decide +kernel
theorem dL_law_1106 : decode cL_law 1106 = .ok (.iaload, 1) := by decide +kernel
theorem dL_law_1107 : decode cL_law 1107 = .ok (.invokevirtual 149, 3) := by decide +kernel
theorem dL_law_1110 : decode cL_law 1110 = .ok (.if_icmp .eq 280, 3) := by decide +kernel
theorem dL_law_1113 : decode cL_law 1113 = .ok (.iconst 0, 1) := by decide +kernel
theorem dL_law_1114 : decode cL_law 1114 = .ok (.ireturn, 1) := by decide +kernel
theorem dL_law_1115 : decode cL_law 1115 = .ok (.aload_n 1, 1) := by decide +kernel
theorem dL_law_1116 : decode cL_law 1116 = .ok (.invokevirtual 150, 3) := by decide +kernel
theorem dL_law_1119 : decode cL_law 1119 = .ok (.aload_n 2, 1) := by decide +kernel
theorem dL_law_1120 : decode cL_law 1120 = .ok (.invokevirtual 153, 3) := by decide +kernel
theorem dL_law_1123 : decode cL_law 1123 = .ok (.if_icmp .eq 267, 3) := by decide +kernel
theorem dL_law_1126 : decode cL_law 1126 = .ok (.iconst 0, 1) := by decide +kernel
theorem dL_law_1127 : decode cL_law 1127 = .ok (.ireturn, 1) := by decide +kernel
theorem dL_law_1128 : decode cL_law 1128 = .ok (.aload_n 1, 1) := by decide +kernel
theorem dL_law_1129 : decode cL_law 1129 = .ok (.aload_n 0, 1) := by decide +kernel
theorem dL_law_1130 : decode cL_law 1130 = .ok (.iload_n 3, 1) := by decide +kernel
theorem dL_law_1131 : decode cL_law 1131 = .ok (.iconst 1, 1) := by decide +kernel
theorem dL_law_1132 : decode cL_law 1132 = .ok (.iadd, 1) := by decide +kernel
theorem dL_law_1133 : decode cL_law 1133 = .ok (.iaload, 1) := by decide +kernel
theorem dL_law_1134 : decode cL_law 1134 = .ok (.invokevirtual 154, 3) := by decide +kernel
theorem dL_law_1137 : decode cL_law 1137 = .ok (.aload_n 2, 1) := by decide +kernel
theorem dL_law_1138 : decode cL_law 1138 = .ok (.aload_n 0, 1) := by decide +kernel
theorem dL_law_1139 : decode cL_law 1139 = .ok (.iload_n 3, 1) := by decide +kernel
theorem dL_law_1140 : decode cL_law 1140 = .ok (.iconst 1, 1) := by decide +kernel
theorem dL_law_1141 : decode cL_law 1141 = .ok (.iadd, 1) := by decide +kernel
theorem dL_law_1142 : decode cL_law 1142 = .ok (.iaload, 1) := by decide +kernel
theorem dL_law_1143 : decode cL_law 1143 = .ok (.invokevirtual 157, 3) := by decide +kernel
theorem dL_law_1146 : decode cL_law 1146 = .ok (.if_icmp .eq 244, 3) := by decide +kernel
theorem dL_law_1149 : decode cL_law 1149 = .ok (.iconst 0, 1) := by decide +kernel
theorem dL_law_1150 : decode cL_law 1150 = .ok (.ireturn, 1) := by decide +kernel
theorem dL_law_1151 : decode cL_law 1151 = .ok (.aload_n 1, 1) := by decide +kernel
theorem dL_law_1152 : decode cL_law 1152 = .ok (.aload_n 0, 1) := by decide +kernel
theorem dL_law_1153 : decode cL_law 1153 = .ok (.iload_n 3, 1) := by decide +kernel
theorem dL_law_1154 : decode cL_law 1154 = .ok (.iconst 1, 1) := by decide +kernel
theorem dL_law_1155 : decode cL_law 1155 = .ok (.iadd, 1) := by decide +kernel
theorem dL_law_1156 : decode cL_law 1156 = .ok (.iaload, 1) := by decide +kernel
theorem dL_law_1157 : decode cL_law 1157 = .ok (.invokevirtual 158, 3) := by decide +kernel
theorem dL_law_1160 : decode cL_law 1160 = .ok (.aload_n 2, 1) := by decide +kernel
theorem dL_law_1161 : decode cL_law 1161 = .ok (.aload_n 0, 1) := by decide +kernel
theorem dL_law_1162 : decode cL_law 1162 = .ok (.iload_n 3, 1) := by decide +kernel
theorem dL_law_1163 : decode cL_law 1163 = .ok (.iconst 1, 1) := by decide +kernel
theorem dL_law_1164 : decode cL_law 1164 = .ok (.iadd, 1) := by decide +kernel
theorem dL_law_1165 : decode cL_law 1165 = .ok (.iaload, 1) := by decide +kernel
theorem dL_law_1166 : decode cL_law 1166 = .ok (.invokevirtual 161, 3) := by decide +kernel
theorem dL_law_1169 : decode cL_law 1169 = .ok (.if_icmp .eq 221, 3) := by decide +kernel
theorem dL_law_1172 : decode cL_law 1172 = .ok (.iconst 0, 1) := by decide +kernel
theorem dL_law_1173 : decode cL_law 1173 = .ok (.ireturn, 1) := by decide +kernel
theorem dL_law_1174 : decode cL_law 1174 = .ok (.aload_n 1, 1) := by decide +kernel
theorem dL_law_1175 : decode cL_law 1175 = .ok (.aload_n 0, 1) := by decide +kernel
theorem dL_law_1176 : decode cL_law 1176 = .ok (.iload_n 3, 1) := by decide +kernel
theorem dL_law_1177 : decode cL_law 1177 = .ok (.iconst 1, 1) := by decide +kernel
theorem dL_law_1178 : decode cL_law 1178 = .ok (.iadd, 1) := by decide +kernel
theorem dL_law_1179 : decode cL_law 1179 = .ok (.iaload, 1) := by decide +kernel
theorem dL_law_1180 : decode cL_law 1180 = .ok (.invokevirtual 162, 3) := by decide +kernel
theorem dL_law_1183 : decode cL_law 1183 = .ok (.aload_n 2, 1) := by decide +kernel
theorem dL_law_1184 : decode cL_law 1184 = .ok (.aload_n 0, 1) := by decide +kernel
theorem dL_law_1185 : decode cL_law 1185 = .ok (.iload_n 3, 1) := by decide +kernel
theorem dL_law_1186 : decode cL_law 1186 = .ok (.iconst 1, 1) := by decide +kernel
theorem dL_law_1187 : decode cL_law 1187 = .ok (.iadd, 1) := by decide +kernel
theorem dL_law_1188 : decode cL_law 1188 = .ok (.iaload, 1) := by decide +kernel
theorem dL_law_1189 : decode cL_law 1189 = .ok (.invokevirtual 165, 3) := by decide +kernel
theorem dL_law_1192 : decode cL_law 1192 = .ok (.if_icmp .eq 198, 3) := by decide +kernel
theorem dL_law_1195 : decode cL_law 1195 = .ok (.iconst 0, 1) := by decide +kernel
theorem dL_law_1196 : decode cL_law 1196 = .ok (.ireturn, 1) := by decide +kernel
theorem dL_law_1197 : decode cL_law 1197 = .ok (.aload_n 1, 1) := by decide +kernel
theorem dL_law_1198 : decode cL_law 1198 = .ok (.aload_n 0, 1) := by decide +kernel
theorem dL_law_1199 : decode cL_law 1199 = .ok (.iload_n 3, 1) := by decide +kernel
theorem dL_law_1200 : decode cL_law 1200 = .ok (.iconst 1, 1) := by decide +kernel
theorem dL_law_1201 : decode cL_law 1201 = .ok (.iadd, 1) := by decide +kernel
theorem dL_law_1202 : decode cL_law 1202 = .ok (.iaload, 1) := by decide +kernel
theorem dL_law_1203 : decode cL_law 1203 = .ok (.invokevirtual 166, 3) := by decide +kernel
theorem dL_law_1206 : decode cL_law 1206 = .ok (.aload_n 2, 1) := by decide +kernel
theorem dL_law_1207 : decode cL_law 1207 = .ok (.aload_n 0, 1) := by decide +kernel
theorem dL_law_1208 : decode cL_law 1208 = .ok (.iload_n 3, 1) := by decide +kernel
theorem dL_law_1209 : decode cL_law 1209 = .ok (.iconst 1, 1) := by decide +kernel
theorem dL_law_1210 : decode cL_law 1210 = .ok (.iadd, 1) := by decide +kernel
theorem dL_law_1211 : decode cL_law 1211 = .ok (.iaload, 1) := by decide +kernel
theorem dL_law_1212 : decode cL_law 1212 = .ok (.invokevirtual 169, 3) := by decide +kernel
theorem dL_law_1215 : decode cL_law 1215 = .ok (.if_icmp .eq 175, 3) := by decide +kernel
theorem dL_law_1218 : decode cL_law 1218 = .ok (.iconst 0, 1) := by decide +kernel
theorem dL_law_1219 : decode cL_law 1219 = .ok (.ireturn, 1) := by decide +kernel
theorem dL_law_1220 : decode cL_law 1220 = .ok (.aload_n 1, 1) := by decide +kernel
theorem dL_law_1221 : decode cL_law 1221 = .ok (.aload_n 0, 1) := by decide +kernel
theorem dL_law_1222 : decode cL_law 1222 = .ok (.iload_n 3, 1) := by decide +kernel
theorem dL_law_1223 : decode cL_law 1223 = .ok (.iconst 1, 1) := by decide +kernel
theorem dL_law_1224 : decode cL_law 1224 = .ok (.iadd, 1) := by decide +kernel
theorem dL_law_1225 : decode cL_law 1225 = .ok (.iaload, 1) := by decide +kernel
theorem dL_law_1226 : decode cL_law 1226 = .ok (.invokevirtual 170, 3) := by decide +kernel
theorem dL_law_1229 : decode cL_law 1229 = .ok (.aload_n 2, 1) := by decide +kernel
theorem dL_law_1230 : decode cL_law 1230 = .ok (.aload_n 0, 1) := by decide +kernel
theorem dL_law_1231 : decode cL_law 1231 = .ok (.iload_n 3, 1) := by decide +kernel
theorem dL_law_1232 : decode cL_law 1232 = .ok (.iconst 1, 1) := by decide +kernel
theorem dL_law_1233 : decode cL_law 1233 = .ok (.iadd, 1) := by decide +kernel
theorem dL_law_1234 : decode cL_law 1234 = .ok (.iaload, 1) := by decide +kernel
theorem dL_law_1235 : decode cL_law 1235 = .ok (.invokevirtual 173, 3) := by decide +kernel
theorem dL_law_1238 : decode cL_law 1238 = .ok (.if_icmp .eq 152, 3) := by decide +kernel
theorem dL_law_1241 : decode cL_law 1241 = .ok (.iconst 0, 1) := by decide +kernel
theorem dL_law_1242 : decode cL_law 1242 = .ok (.ireturn, 1) := by decide +kernel
theorem dL_law_1243 : decode cL_law 1243 = .ok (.aload_n 1, 1) := by decide +kernel
theorem dL_law_1244 : decode cL_law 1244 = .ok (.aload_n 0, 1) := by decide +kernel
theorem dL_law_1245 : decode cL_law 1245 = .ok (.iload_n 3, 1) := by decide +kernel
theorem dL_law_1246 : decode cL_law 1246 = .ok (.iconst 1, 1) := by decide +kernel
theorem dL_law_1247 : decode cL_law 1247 = .ok (.iadd, 1) := by decide +kernel
theorem dL_law_1248 : decode cL_law 1248 = .ok (.iaload, 1) := by decide +kernel
theorem dL_law_1249 : decode cL_law 1249 = .ok (.aload_n 0, 1) := by decide +kernel
theorem dL_law_1250 : decode cL_law 1250 = .ok (.iload_n 3, 1) := by decide +kernel
theorem dL_law_1251 : decode cL_law 1251 = .ok (.iconst 2, 1) := by decide +kernel
theorem dL_law_1252 : decode cL_law 1252 = .ok (.iadd, 1) := by decide +kernel
theorem dL_law_1253 : decode cL_law 1253 = .ok (.iaload, 1) := by decide +kernel
theorem dL_law_1254 : decode cL_law 1254 = .ok (.invokevirtual 174, 3) := by decide +kernel
theorem dL_law_1257 : decode cL_law 1257 = .ok (.aload_n 2, 1) := by decide +kernel
theorem dL_law_1258 : decode cL_law 1258 = .ok (.aload_n 0, 1) := by decide +kernel
theorem dL_law_1259 : decode cL_law 1259 = .ok (.iload_n 3, 1) := by decide +kernel
theorem dL_law_1260 : decode cL_law 1260 = .ok (.iconst 1, 1) := by decide +kernel
theorem dL_law_1261 : decode cL_law 1261 = .ok (.iadd, 1) := by decide +kernel
theorem dL_law_1262 : decode cL_law 1262 = .ok (.iaload, 1) := by decide +kernel
theorem dL_law_1263 : decode cL_law 1263 = .ok (.aload_n 0, 1) := by decide +kernel
theorem dL_law_1264 : decode cL_law 1264 = .ok (.iload_n 3, 1) := by decide +kernel
theorem dL_law_1265 : decode cL_law 1265 = .ok (.iconst 2, 1) := by decide +kernel
theorem dL_law_1266 : decode cL_law 1266 = .ok (.iadd, 1) := by decide +kernel
theorem dL_law_1267 : decode cL_law 1267 = .ok (.iaload, 1) := by decide +kernel
theorem dL_law_1268 : decode cL_law 1268 = .ok (.invokevirtual 177, 3) := by decide +kernel
theorem dL_law_1271 : decode cL_law 1271 = .ok (.if_icmp .eq 119, 3) := by decide +kernel
theorem dL_law_1274 : decode cL_law 1274 = .ok (.iconst 0, 1) := by decide +kernel
theorem dL_law_1275 : decode cL_law 1275 = .ok (.ireturn, 1) := by decide +kernel
theorem dL_law_1276 : decode cL_law 1276 = .ok (.aload_n 1, 1) := by decide +kernel
theorem dL_law_1277 : decode cL_law 1277 = .ok (.invokevirtual 178, 3) := by decide +kernel
theorem dL_law_1280 : decode cL_law 1280 = .ok (.aload_n 2, 1) := by decide +kernel
theorem dL_law_1281 : decode cL_law 1281 = .ok (.invokevirtual 181, 3) := by decide +kernel
theorem dL_law_1284 : decode cL_law 1284 = .ok (.if_icmp .eq 106, 3) := by decide +kernel
theorem dL_law_1287 : decode cL_law 1287 = .ok (.iconst 0, 1) := by decide +kernel
theorem dL_law_1288 : decode cL_law 1288 = .ok (.ireturn, 1) := by decide +kernel
theorem dL_law_1289 : decode cL_law 1289 = .ok (.aload_n 1, 1) := by decide +kernel
theorem dL_law_1290 : decode cL_law 1290 = .ok (.invokevirtual 182, 3) := by decide +kernel
theorem dL_law_1293 : decode cL_law 1293 = .ok (.aload_n 2, 1) := by decide +kernel
theorem dL_law_1294 : decode cL_law 1294 = .ok (.invokevirtual 186, 3) := by decide +kernel
theorem dL_law_1297 : decode cL_law 1297 = .ok (.lcmp, 1) := by decide +kernel
theorem dL_law_1298 : decode cL_law 1298 = .ok (.ifCond .eq 92, 3) := by decide +kernel
theorem dL_law_1301 : decode cL_law 1301 = .ok (.iconst 0, 1) := by decide +kernel
theorem dL_law_1302 : decode cL_law 1302 = .ok (.ireturn, 1) := by decide +kernel
theorem dL_law_1303 : decode cL_law 1303 = .ok (.aload_n 1, 1) := by decide +kernel
theorem dL_law_1304 : decode cL_law 1304 = .ok (.invokevirtual 187, 3) := by decide +kernel
theorem dL_law_1307 : decode cL_law 1307 = .ok (.aload_n 2, 1) := by decide +kernel
theorem dL_law_1308 : decode cL_law 1308 = .ok (.invokevirtual 190, 3) := by decide +kernel
theorem dL_law_1311 : decode cL_law 1311 = .ok (.lcmp, 1) := by decide +kernel
theorem dL_law_1312 : decode cL_law 1312 = .ok (.ifCond .eq 78, 3) := by decide +kernel
theorem dL_law_1315 : decode cL_law 1315 = .ok (.iconst 0, 1) := by decide +kernel
theorem dL_law_1316 : decode cL_law 1316 = .ok (.ireturn, 1) := by decide +kernel
theorem dL_law_1317 : decode cL_law 1317 = .ok (.aload_n 1, 1) := by decide +kernel
theorem dL_law_1318 : decode cL_law 1318 = .ok (.aload_n 0, 1) := by decide +kernel
theorem dL_law_1319 : decode cL_law 1319 = .ok (.iload_n 3, 1) := by decide +kernel
theorem dL_law_1320 : decode cL_law 1320 = .ok (.iconst 1, 1) := by decide +kernel
theorem dL_law_1321 : decode cL_law 1321 = .ok (.iadd, 1) := by decide +kernel
theorem dL_law_1322 : decode cL_law 1322 = .ok (.iaload, 1) := by decide +kernel
theorem dL_law_1323 : decode cL_law 1323 = .ok (.invokevirtual 191, 3) := by decide +kernel
theorem dL_law_1326 : decode cL_law 1326 = .ok (.aload_n 2, 1) := by decide +kernel
theorem dL_law_1327 : decode cL_law 1327 = .ok (.aload_n 0, 1) := by decide +kernel
theorem dL_law_1328 : decode cL_law 1328 = .ok (.iload_n 3, 1) := by decide +kernel
theorem dL_law_1329 : decode cL_law 1329 = .ok (.iconst 1, 1) := by decide +kernel
theorem dL_law_1330 : decode cL_law 1330 = .ok (.iadd, 1) := by decide +kernel
theorem dL_law_1331 : decode cL_law 1331 = .ok (.iaload, 1) := by decide +kernel
theorem dL_law_1332 : decode cL_law 1332 = .ok (.invokevirtual 194, 3) := by decide +kernel
theorem dL_law_1335 : decode cL_law 1335 = .ok (.if_icmp .eq 55, 3) := by decide +kernel
theorem dL_law_1338 : decode cL_law 1338 = .ok (.iconst 0, 1) := by decide +kernel
theorem dL_law_1339 : decode cL_law 1339 = .ok (.ireturn, 1) := by decide +kernel
theorem dL_law_1340 : decode cL_law 1340 = .ok (.aload_n 1, 1) := by decide +kernel
theorem dL_law_1341 : decode cL_law 1341 = .ok (.invokevirtual 195, 3) := by decide +kernel
theorem dL_law_1344 : decode cL_law 1344 = .ok (.aload_n 2, 1) := by decide +kernel
theorem dL_law_1345 : decode cL_law 1345 = .ok (.invokevirtual 198, 3) := by decide +kernel
theorem dL_law_1348 : decode cL_law 1348 = .ok (.if_icmp .eq 42, 3) := by decide +kernel
theorem dL_law_1351 : decode cL_law 1351 = .ok (.iconst 0, 1) := by decide +kernel
theorem dL_law_1352 : decode cL_law 1352 = .ok (.ireturn, 1) := by decide +kernel
theorem dL_law_1353 : decode cL_law 1353 = .ok (.aload_n 1, 1) := by decide +kernel
theorem dL_law_1354 : decode cL_law 1354 = .ok (.aload_n 0, 1) := by decide +kernel
theorem dL_law_1355 : decode cL_law 1355 = .ok (.iload_n 3, 1) := by decide +kernel
theorem dL_law_1356 : decode cL_law 1356 = .ok (.iconst 1, 1) := by decide +kernel
theorem dL_law_1357 : decode cL_law 1357 = .ok (.iadd, 1) := by decide +kernel
theorem dL_law_1358 : decode cL_law 1358 = .ok (.iaload, 1) := by decide +kernel
theorem dL_law_1359 : decode cL_law 1359 = .ok (.invokevirtual 199, 3) := by decide +kernel
theorem dL_law_1362 : decode cL_law 1362 = .ok (.aload_n 2, 1) := by decide +kernel
theorem dL_law_1363 : decode cL_law 1363 = .ok (.aload_n 0, 1) := by decide +kernel
theorem dL_law_1364 : decode cL_law 1364 = .ok (.iload_n 3, 1) := by decide +kernel
theorem dL_law_1365 : decode cL_law 1365 = .ok (.iconst 1, 1) := by decide +kernel
theorem dL_law_1366 : decode cL_law 1366 = .ok (.iadd, 1) := by decide +kernel
theorem dL_law_1367 : decode cL_law 1367 = .ok (.iaload, 1) := by decide +kernel
theorem dL_law_1368 : decode cL_law 1368 = .ok (.invokevirtual 202, 3) := by decide +kernel
theorem dL_law_1371 : decode cL_law 1371 = .ok (.if_icmp .eq 19, 3) := by decide +kernel
theorem dL_law_1374 : decode cL_law 1374 = .ok (.iconst 0, 1) := by decide +kernel
theorem dL_law_1375 : decode cL_law 1375 = .ok (.ireturn, 1) := by decide +kernel
theorem dL_law_1376 : decode cL_law 1376 = .ok (.aload_n 1, 1) := by decide +kernel
theorem dL_law_1377 : decode cL_law 1377 = .ok (.invokevirtual 203, 3) := by decide +kernel
theorem dL_law_1380 : decode cL_law 1380 = .ok (.aload_n 2, 1) := by decide +kernel
theorem dL_law_1381 : decode cL_law 1381 = .ok (.invokevirtual 206, 3) := by decide +kernel
theorem dL_law_1384 : decode cL_law 1384 = .ok (.lcmp, 1) := by decide +kernel
theorem dL_law_1385 : decode cL_law 1385 = .ok (.ifCond .eq 5, 3) := by decide +kernel
theorem dL_law_1388 : decode cL_law 1388 = .ok (.iconst 0, 1) := by decide +kernel
theorem dL_law_1389 : decode cL_law 1389 = .ok (.ireturn, 1) := by decide +kernel
theorem dL_law_1390 : decode cL_law 1390 = .ok (.iinc 3 6, 3) := by decide +kernel
theorem dL_law_1393 : decode cL_law 1393 = .ok (.goto (-1375), 3) := by decide +kernel
theorem dL_law_1396 : decode cL_law 1396 = .ok (.iconst 1, 1) := by decide +kernel
theorem dL_law_1397 : decode cL_law 1397 = .ok (.ireturn, 1) := by decide +kernel
