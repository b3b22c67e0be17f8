theorem twl_347 : Cond.methodLink "FreePlaceLaw" 13 yX11_feed ∈ fp_T := fp_T_of 347 (by decide +kernel) rfl
theorem twl_348 : Cond.instanceMethod yX11_feed ∈ fp_T := fp_T_of 348 (by decide +kernel) rfl
theorem twl_349 : Cond.selects "FreePlace" yX11_feed yX11_feed ∈ fp_T := fp_T_of 349 (by decide +kernel) rfl
theorem twl_911 : Cond.methodLink "FreePlaceLaw" 17 yX12_feed ∈ fp_T := fp_T_of 911 (by decide +kernel) rfl
theorem twl_912 : Cond.instanceMethod yX12_feed ∈ fp_T := fp_T_of 912 (by decide +kernel) rfl
theorem twl_913 : Cond.selects "FreePlaceModel" yX12_feed yX12_feed ∈ fp_T := fp_T_of 913 (by decide +kernel) rfl
theorem twl_357 : Cond.methodLink "FreePlaceLaw" 18 yX11_realm ∈ fp_T := fp_T_of 357 (by decide +kernel) rfl
theorem twl_358 : Cond.instanceMethod yX11_realm ∈ fp_T := fp_T_of 358 (by decide +kernel) rfl
theorem twl_359 : Cond.selects "FreePlace" yX11_realm yX11_realm ∈ fp_T := fp_T_of 359 (by decide +kernel) rfl
theorem twl_921 : Cond.methodLink "FreePlaceLaw" 22 yX12_realm ∈ fp_T := fp_T_of 921 (by decide +kernel) rfl
theorem twl_922 : Cond.instanceMethod yX12_realm ∈ fp_T := fp_T_of 922 (by decide +kernel) rfl
theorem twl_923 : Cond.selects "FreePlaceModel" yX12_realm yX12_realm ∈ fp_T := fp_T_of 923 (by decide +kernel) rfl
theorem twl_456 : Cond.methodLink "FreePlaceLaw" 23 yX11_fault ∈ fp_T := fp_T_of 456 (by decide +kernel) rfl
theorem twl_457 : Cond.instanceMethod yX11_fault ∈ fp_T := fp_T_of 457 (by decide +kernel) rfl
theorem twl_458 : Cond.selects "FreePlace" yX11_fault yX11_fault ∈ fp_T := fp_T_of 458 (by decide +kernel) rfl
theorem twl_967 : Cond.methodLink "FreePlaceLaw" 26 yX12_fault ∈ fp_T := fp_T_of 967 (by decide +kernel) rfl
theorem twl_968 : Cond.instanceMethod yX12_fault ∈ fp_T := fp_T_of 968 (by decide +kernel) rfl
theorem twl_969 : Cond.selects "FreePlaceModel" yX12_fault yX12_fault ∈ fp_T := fp_T_of 969 (by decide +kernel) rfl
theorem twl_460 : Cond.methodLink "FreePlaceLaw" 27 yX11_told ∈ fp_T := fp_T_of 460 (by decide +kernel) rfl
theorem twl_461 : Cond.instanceMethod yX11_told ∈ fp_T := fp_T_of 461 (by decide +kernel) rfl
theorem twl_462 : Cond.selects "FreePlace" yX11_told yX11_told ∈ fp_T := fp_T_of 462 (by decide +kernel) rfl
theorem twl_971 : Cond.methodLink "FreePlaceLaw" 30 yX12_told ∈ fp_T := fp_T_of 971 (by decide +kernel) rfl
theorem twl_972 : Cond.instanceMethod yX12_told ∈ fp_T := fp_T_of 972 (by decide +kernel) rfl
theorem twl_973 : Cond.selects "FreePlaceModel" yX12_told yX12_told ∈ fp_T := fp_T_of 973 (by decide +kernel) rfl
theorem twl_510 : Cond.methodLink "FreePlaceLaw" 31 yX11_table ∈ fp_T := fp_T_of 510 (by decide +kernel) rfl
theorem twl_511 : Cond.instanceMethod yX11_table ∈ fp_T := fp_T_of 511 (by decide +kernel) rfl
theorem twl_512 : Cond.selects "FreePlace" yX11_table yX11_table ∈ fp_T := fp_T_of 512 (by decide +kernel) rfl
theorem twl_1002 : Cond.methodLink "FreePlaceLaw" 35 yX12_table ∈ fp_T := fp_T_of 1002 (by decide +kernel) rfl
theorem twl_1003 : Cond.instanceMethod yX12_table ∈ fp_T := fp_T_of 1003 (by decide +kernel) rfl
theorem twl_1004 : Cond.selects "FreePlaceModel" yX12_table yX12_table ∈ fp_T := fp_T_of 1004 (by decide +kernel) rfl
theorem twl_523 : Cond.methodLink "FreePlaceLaw" 36 yX11_way ∈ fp_T := fp_T_of 523 (by decide +kernel) rfl
theorem twl_524 : Cond.instanceMethod yX11_way ∈ fp_T := fp_T_of 524 (by decide +kernel) rfl
theorem twl_525 : Cond.selects "FreePlace" yX11_way yX11_way ∈ fp_T := fp_T_of 525 (by decide +kernel) rfl
theorem twl_1011 : Cond.methodLink "FreePlaceLaw" 39 yX12_way ∈ fp_T := fp_T_of 1011 (by decide +kernel) rfl
theorem twl_1012 : Cond.instanceMethod yX12_way ∈ fp_T := fp_T_of 1012 (by decide +kernel) rfl
theorem twl_1013 : Cond.selects "FreePlaceModel" yX12_way yX12_way ∈ fp_T := fp_T_of 1013 (by decide +kernel) rfl
theorem twl_535 : Cond.methodLink "FreePlaceLaw" 40 yX11_come ∈ fp_T := fp_T_of 535 (by decide +kernel) rfl
theorem twl_536 : Cond.instanceMethod yX11_come ∈ fp_T := fp_T_of 536 (by decide +kernel) rfl
theorem twl_537 : Cond.selects "FreePlace" yX11_come yX11_come ∈ fp_T := fp_T_of 537 (by decide +kernel) rfl
theorem twl_1015 : Cond.methodLink "FreePlaceLaw" 43 yX12_come ∈ fp_T := fp_T_of 1015 (by decide +kernel) rfl
theorem twl_1016 : Cond.instanceMethod yX12_come ∈ fp_T := fp_T_of 1016 (by decide +kernel) rfl
theorem twl_1017 : Cond.selects "FreePlaceModel" yX12_come yX12_come ∈ fp_T := fp_T_of 1017 (by decide +kernel) rfl
theorem twl_572 : Cond.methodLink "FreePlaceLaw" 44 yX11_go ∈ fp_T := fp_T_of 572 (by decide +kernel) rfl
theorem twl_573 : Cond.instanceMethod yX11_go ∈ fp_T := fp_T_of 573 (by decide +kernel) rfl
theorem twl_574 : Cond.selects "FreePlace" yX11_go yX11_go ∈ fp_T := fp_T_of 574 (by decide +kernel) rfl
theorem twl_1036 : Cond.methodLink "FreePlaceLaw" 47 yX12_go ∈ fp_T := fp_T_of 1036 (by decide +kernel) rfl
theorem twl_1037 : Cond.instanceMethod yX12_go ∈ fp_T := fp_T_of 1037 (by decide +kernel) rfl
theorem twl_1038 : Cond.selects "FreePlaceModel" yX12_go yX12_go ∈ fp_T := fp_T_of 1038 (by decide +kernel) rfl
theorem twl_577 : Cond.methodLink "FreePlaceLaw" 48 yX11_build ∈ fp_T := fp_T_of 577 (by decide +kernel) rfl
theorem twl_578 : Cond.instanceMethod yX11_build ∈ fp_T := fp_T_of 578 (by decide +kernel) rfl
theorem twl_579 : Cond.selects "FreePlace" yX11_build yX11_build ∈ fp_T := fp_T_of 579 (by decide +kernel) rfl
theorem twl_1041 : Cond.methodLink "FreePlaceLaw" 51 yX12_build ∈ fp_T := fp_T_of 1041 (by decide +kernel) rfl
theorem twl_1042 : Cond.instanceMethod yX12_build ∈ fp_T := fp_T_of 1042 (by decide +kernel) rfl
theorem twl_1043 : Cond.selects "FreePlaceModel" yX12_build yX12_build ∈ fp_T := fp_T_of 1043 (by decide +kernel) rfl
theorem twl_581 : Cond.methodLink "FreePlaceLaw" 52 yX11_breakOne ∈ fp_T := fp_T_of 581 (by decide +kernel) rfl
theorem twl_582 : Cond.instanceMethod yX11_breakOne ∈ fp_T := fp_T_of 582 (by decide +kernel) rfl
theorem twl_583 : Cond.selects "FreePlace" yX11_breakOne yX11_breakOne ∈ fp_T := fp_T_of 583 (by decide +kernel) rfl
theorem twl_1045 : Cond.methodLink "FreePlaceLaw" 55 yX12_breakOne ∈ fp_T := fp_T_of 1045 (by decide +kernel) rfl
theorem twl_1046 : Cond.instanceMethod yX12_breakOne ∈ fp_T := fp_T_of 1046 (by decide +kernel) rfl
theorem twl_1047 : Cond.selects "FreePlaceModel" yX12_breakOne yX12_breakOne ∈ fp_T := fp_T_of 1047 (by decide +kernel) rfl
theorem twl_585 : Cond.methodLink "FreePlaceLaw" 56 yX11_shut ∈ fp_T := fp_T_of 585 (by decide +kernel) rfl
theorem twl_586 : Cond.instanceMethod yX11_shut ∈ fp_T := fp_T_of 586 (by decide +kernel) rfl
theorem twl_587 : Cond.selects "FreePlace" yX11_shut yX11_shut ∈ fp_T := fp_T_of 587 (by decide +kernel) rfl
theorem twl_1049 : Cond.methodLink "FreePlaceLaw" 60 yX12_shut ∈ fp_T := fp_T_of 1049 (by decide +kernel) rfl
theorem twl_1050 : Cond.instanceMethod yX12_shut ∈ fp_T := fp_T_of 1050 (by decide +kernel) rfl
theorem twl_1051 : Cond.selects "FreePlaceModel" yX12_shut yX12_shut ∈ fp_T := fp_T_of 1051 (by decide +kernel) rfl
theorem twl_593 : Cond.methodLink "FreePlaceLaw" 61 yX11_drift ∈ fp_T := fp_T_of 593 (by decide +kernel) rfl
theorem twl_594 : Cond.instanceMethod yX11_drift ∈ fp_T := fp_T_of 594 (by decide +kernel) rfl
theorem twl_595 : Cond.selects "FreePlace" yX11_drift yX11_drift ∈ fp_T := fp_T_of 595 (by decide +kernel) rfl
theorem twl_1053 : Cond.methodLink "FreePlaceLaw" 64 yX12_drift ∈ fp_T := fp_T_of 1053 (by decide +kernel) rfl
theorem twl_1054 : Cond.instanceMethod yX12_drift ∈ fp_T := fp_T_of 1054 (by decide +kernel) rfl
theorem twl_1055 : Cond.selects "FreePlaceModel" yX12_drift yX12_drift ∈ fp_T := fp_T_of 1055 (by decide +kernel) rfl
theorem twl_610 : Cond.methodLink "FreePlaceLaw" 65 yX11_undo ∈ fp_T := fp_T_of 610 (by decide +kernel) rfl
theorem twl_611 : Cond.instanceMethod yX11_undo ∈ fp_T := fp_T_of 611 (by decide +kernel) rfl
theorem twl_612 : Cond.selects "FreePlace" yX11_undo yX11_undo ∈ fp_T := fp_T_of 612 (by decide +kernel) rfl
theorem twl_1070 : Cond.methodLink "FreePlaceLaw" 68 yX12_undo ∈ fp_T := fp_T_of 1070 (by decide +kernel) rfl
theorem twl_1071 : Cond.instanceMethod yX12_undo ∈ fp_T := fp_T_of 1071 (by decide +kernel) rfl
theorem twl_1072 : Cond.selects "FreePlaceModel" yX12_undo yX12_undo ∈ fp_T := fp_T_of 1072 (by decide +kernel) rfl
theorem twl_618 : Cond.methodLink "FreePlaceLaw" 69 yX11_chain ∈ fp_T := fp_T_of 618 (by decide +kernel) rfl
theorem twl_619 : Cond.instanceMethod yX11_chain ∈ fp_T := fp_T_of 619 (by decide +kernel) rfl
theorem twl_620 : Cond.selects "FreePlace" yX11_chain yX11_chain ∈ fp_T := fp_T_of 620 (by decide +kernel) rfl
theorem twl_1074 : Cond.methodLink "FreePlaceLaw" 72 yX12_chain ∈ fp_T := fp_T_of 1074 (by decide +kernel) rfl
theorem twl_1075 : Cond.instanceMethod yX12_chain ∈ fp_T := fp_T_of 1075 (by decide +kernel) rfl
theorem twl_1076 : Cond.selects "FreePlaceModel" yX12_chain yX12_chain ∈ fp_T := fp_T_of 1076 (by decide +kernel) rfl
theorem twl_624 : Cond.methodLink "FreePlaceLaw" 73 yX11_more ∈ fp_T := fp_T_of 624 (by decide +kernel) rfl
theorem twl_625 : Cond.instanceMethod yX11_more ∈ fp_T := fp_T_of 625 (by decide +kernel) rfl
theorem twl_626 : Cond.selects "FreePlace" yX11_more yX11_more ∈ fp_T := fp_T_of 626 (by decide +kernel) rfl
theorem twl_1078 : Cond.methodLink "FreePlaceLaw" 76 yX12_more ∈ fp_T := fp_T_of 1078 (by decide +kernel) rfl
theorem twl_1079 : Cond.instanceMethod yX12_more ∈ fp_T := fp_T_of 1079 (by decide +kernel) rfl
theorem twl_1080 : Cond.selects "FreePlaceModel" yX12_more yX12_more ∈ fp_T := fp_T_of 1080 (by decide +kernel) rfl
theorem twl_645 : Cond.methodLink "FreePlaceLaw" 77 yX11_far ∈ fp_T := fp_T_of 645 (by decide +kernel) rfl
theorem twl_646 : Cond.instanceMethod yX11_far ∈ fp_T := fp_T_of 646 (by decide +kernel) rfl
theorem twl_647 : Cond.selects "FreePlace" yX11_far yX11_far ∈ fp_T := fp_T_of 647 (by decide +kernel) rfl
theorem twl_1086 : Cond.methodLink "FreePlaceLaw" 80 yX12_far ∈ fp_T := fp_T_of 1086 (by decide +kernel) rfl
theorem twl_1087 : Cond.instanceMethod yX12_far ∈ fp_T := fp_T_of 1087 (by decide +kernel) rfl
theorem twl_1088 : Cond.selects "FreePlaceModel" yX12_far yX12_far ∈ fp_T := fp_T_of 1088 (by decide +kernel) rfl
theorem twl_653 : Cond.methodLink "FreePlaceLaw" 81 yX11_two ∈ fp_T := fp_T_of 653 (by decide +kernel) rfl
theorem twl_654 : Cond.instanceMethod yX11_two ∈ fp_T := fp_T_of 654 (by decide +kernel) rfl
theorem twl_655 : Cond.selects "FreePlace" yX11_two yX11_two ∈ fp_T := fp_T_of 655 (by decide +kernel) rfl
theorem twl_1090 : Cond.methodLink "FreePlaceLaw" 85 yX12_two ∈ fp_T := fp_T_of 1090 (by decide +kernel) rfl
theorem twl_1091 : Cond.instanceMethod yX12_two ∈ fp_T := fp_T_of 1091 (by decide +kernel) rfl
theorem twl_1092 : Cond.selects "FreePlaceModel" yX12_two yX12_two ∈ fp_T := fp_T_of 1092 (by decide +kernel) rfl
theorem twl_668 : Cond.methodLink "FreePlaceLaw" 86 yX11_chairs ∈ fp_T := fp_T_of 668 (by decide +kernel) rfl
theorem twl_669 : Cond.instanceMethod yX11_chairs ∈ fp_T := fp_T_of 669 (by decide +kernel) rfl
theorem twl_670 : Cond.selects "FreePlace" yX11_chairs yX11_chairs ∈ fp_T := fp_T_of 670 (by decide +kernel) rfl
theorem twl_1106 : Cond.methodLink "FreePlaceLaw" 89 yX12_chairs ∈ fp_T := fp_T_of 1106 (by decide +kernel) rfl
theorem twl_1107 : Cond.instanceMethod yX12_chairs ∈ fp_T := fp_T_of 1107 (by decide +kernel) rfl
theorem twl_1108 : Cond.selects "FreePlaceModel" yX12_chairs yX12_chairs ∈ fp_T := fp_T_of 1108 (by decide +kernel) rfl
theorem twl_703 : Cond.methodLink "FreePlaceLaw" 90 yX11_spread ∈ fp_T := fp_T_of 703 (by decide +kernel) rfl
theorem twl_704 : Cond.instanceMethod yX11_spread ∈ fp_T := fp_T_of 704 (by decide +kernel) rfl
theorem twl_705 : Cond.selects "FreePlace" yX11_spread yX11_spread ∈ fp_T := fp_T_of 705 (by decide +kernel) rfl
theorem twl_1123 : Cond.methodLink "FreePlaceLaw" 93 yX12_spread ∈ fp_T := fp_T_of 1123 (by decide +kernel) rfl
theorem twl_1124 : Cond.instanceMethod yX12_spread ∈ fp_T := fp_T_of 1124 (by decide +kernel) rfl
theorem twl_1125 : Cond.selects "FreePlaceModel" yX12_spread yX12_spread ∈ fp_T := fp_T_of 1125 (by decide +kernel) rfl
theorem twl_712 : Cond.methodLink "FreePlaceLaw" 94 yX11_quiet ∈ fp_T := fp_T_of 712 (by decide +kernel) rfl
theorem twl_713 : Cond.instanceMethod yX11_quiet ∈ fp_T := fp_T_of 713 (by decide +kernel) rfl
theorem twl_714 : Cond.selects "FreePlace" yX11_quiet yX11_quiet ∈ fp_T := fp_T_of 714 (by decide +kernel) rfl
theorem twl_1131 : Cond.methodLink "FreePlaceLaw" 97 yX12_quiet ∈ fp_T := fp_T_of 1131 (by decide +kernel) rfl
theorem twl_1132 : Cond.instanceMethod yX12_quiet ∈ fp_T := fp_T_of 1132 (by decide +kernel) rfl
theorem twl_1133 : Cond.selects "FreePlaceModel" yX12_quiet yX12_quiet ∈ fp_T := fp_T_of 1133 (by decide +kernel) rfl
theorem twl_718 : Cond.methodLink "FreePlaceLaw" 98 yX11_see ∈ fp_T := fp_T_of 718 (by decide +kernel) rfl
theorem twl_719 : Cond.instanceMethod yX11_see ∈ fp_T := fp_T_of 719 (by decide +kernel) rfl
theorem twl_720 : Cond.selects "FreePlace" yX11_see yX11_see ∈ fp_T := fp_T_of 720 (by decide +kernel) rfl
theorem twl_1137 : Cond.methodLink "FreePlaceLaw" 101 yX12_see ∈ fp_T := fp_T_of 1137 (by decide +kernel) rfl
theorem twl_1138 : Cond.instanceMethod yX12_see ∈ fp_T := fp_T_of 1138 (by decide +kernel) rfl
theorem twl_1139 : Cond.selects "FreePlaceModel" yX12_see yX12_see ∈ fp_T := fp_T_of 1139 (by decide +kernel) rfl
theorem twl_726 : Cond.methodLink "FreePlaceLaw" 102 yX11_came ∈ fp_T := fp_T_of 726 (by decide +kernel) rfl
theorem twl_727 : Cond.instanceMethod yX11_came ∈ fp_T := fp_T_of 727 (by decide +kernel) rfl
theorem twl_728 : Cond.selects "FreePlace" yX11_came yX11_came ∈ fp_T := fp_T_of 728 (by decide +kernel) rfl
theorem twl_1141 : Cond.methodLink "FreePlaceLaw" 105 yX12_came ∈ fp_T := fp_T_of 1141 (by decide +kernel) rfl
theorem twl_1142 : Cond.instanceMethod yX12_came ∈ fp_T := fp_T_of 1142 (by decide +kernel) rfl
theorem twl_1143 : Cond.selects "FreePlaceModel" yX12_came yX12_came ∈ fp_T := fp_T_of 1143 (by decide +kernel) rfl
theorem twl_739 : Cond.methodLink "FreePlaceLaw" 106 yX11_look ∈ fp_T := fp_T_of 739 (by decide +kernel) rfl
theorem twl_740 : Cond.instanceMethod yX11_look ∈ fp_T := fp_T_of 740 (by decide +kernel) rfl
theorem twl_741 : Cond.selects "FreePlace" yX11_look yX11_look ∈ fp_T := fp_T_of 741 (by decide +kernel) rfl
theorem twl_1153 : Cond.methodLink "FreePlaceLaw" 109 yX12_look ∈ fp_T := fp_T_of 1153 (by decide +kernel) rfl
theorem twl_1154 : Cond.instanceMethod yX12_look ∈ fp_T := fp_T_of 1154 (by decide +kernel) rfl
theorem twl_1155 : Cond.selects "FreePlaceModel" yX12_look yX12_look ∈ fp_T := fp_T_of 1155 (by decide +kernel) rfl
theorem twl_753 : Cond.methodLink "FreePlaceLaw" 110 yX11_write ∈ fp_T := fp_T_of 753 (by decide +kernel) rfl
theorem twl_754 : Cond.instanceMethod yX11_write ∈ fp_T := fp_T_of 754 (by decide +kernel) rfl
theorem twl_755 : Cond.selects "FreePlace" yX11_write yX11_write ∈ fp_T := fp_T_of 755 (by decide +kernel) rfl
theorem twl_1160 : Cond.methodLink "FreePlaceLaw" 113 yX12_write ∈ fp_T := fp_T_of 1160 (by decide +kernel) rfl
theorem twl_1161 : Cond.instanceMethod yX12_write ∈ fp_T := fp_T_of 1161 (by decide +kernel) rfl
theorem twl_1162 : Cond.selects "FreePlaceModel" yX12_write yX12_write ∈ fp_T := fp_T_of 1162 (by decide +kernel) rfl
theorem twl_761 : Cond.methodLink "FreePlaceLaw" 114 yX11_tear ∈ fp_T := fp_T_of 761 (by decide +kernel) rfl
theorem twl_762 : Cond.instanceMethod yX11_tear ∈ fp_T := fp_T_of 762 (by decide +kernel) rfl
theorem twl_763 : Cond.selects "FreePlace" yX11_tear yX11_tear ∈ fp_T := fp_T_of 763 (by decide +kernel) rfl
theorem twl_1165 : Cond.methodLink "FreePlaceLaw" 117 yX12_tear ∈ fp_T := fp_T_of 1165 (by decide +kernel) rfl
theorem twl_1166 : Cond.instanceMethod yX12_tear ∈ fp_T := fp_T_of 1166 (by decide +kernel) rfl
theorem twl_1167 : Cond.selects "FreePlaceModel" yX12_tear yX12_tear ∈ fp_T := fp_T_of 1167 (by decide +kernel) rfl
theorem twl_765 : Cond.methodLink "FreePlaceLaw" 118 yX11_judge ∈ fp_T := fp_T_of 765 (by decide +kernel) rfl
theorem twl_766 : Cond.instanceMethod yX11_judge ∈ fp_T := fp_T_of 766 (by decide +kernel) rfl
theorem twl_767 : Cond.selects "FreePlace" yX11_judge yX11_judge ∈ fp_T := fp_T_of 767 (by decide +kernel) rfl
theorem twl_1169 : Cond.methodLink "FreePlaceLaw" 121 yX12_judge ∈ fp_T := fp_T_of 1169 (by decide +kernel) rfl
theorem twl_1170 : Cond.instanceMethod yX12_judge ∈ fp_T := fp_T_of 1170 (by decide +kernel) rfl
theorem twl_1171 : Cond.selects "FreePlaceModel" yX12_judge yX12_judge ∈ fp_T := fp_T_of 1171 (by decide +kernel) rfl
theorem twl_773 : Cond.methodLink "FreePlaceLaw" 122 yX11_seed ∈ fp_T := fp_T_of 773 (by decide +kernel) rfl
theorem twl_774 : Cond.instanceMethod yX11_seed ∈ fp_T := fp_T_of 774 (by decide +kernel) rfl
theorem twl_775 : Cond.selects "FreePlace" yX11_seed yX11_seed ∈ fp_T := fp_T_of 775 (by decide +kernel) rfl
theorem twl_1173 : Cond.methodLink "FreePlaceLaw" 125 yX12_seed ∈ fp_T := fp_T_of 1173 (by decide +kernel) rfl
theorem twl_1174 : Cond.instanceMethod yX12_seed ∈ fp_T := fp_T_of 1174 (by decide +kernel) rfl
theorem twl_1175 : Cond.selects "FreePlaceModel" yX12_seed yX12_seed ∈ fp_T := fp_T_of 1175 (by decide +kernel) rfl
theorem twl_777 : Cond.methodLink "FreePlaceLaw" 126 yX11_keep ∈ fp_T := fp_T_of 777 (by decide +kernel) rfl
theorem twl_778 : Cond.instanceMethod yX11_keep ∈ fp_T := fp_T_of 778 (by decide +kernel) rfl
theorem twl_779 : Cond.selects "FreePlace" yX11_keep yX11_keep ∈ fp_T := fp_T_of 779 (by decide +kernel) rfl
theorem twl_1177 : Cond.methodLink "FreePlaceLaw" 129 yX12_keep ∈ fp_T := fp_T_of 1177 (by decide +kernel) rfl
theorem twl_1178 : Cond.instanceMethod yX12_keep ∈ fp_T := fp_T_of 1178 (by decide +kernel) rfl
theorem twl_1179 : Cond.selects "FreePlaceModel" yX12_keep yX12_keep ∈ fp_T := fp_T_of 1179 (by decide +kernel) rfl
theorem twl_791 : Cond.methodLink "FreePlaceLaw" 130 yX11_goBack ∈ fp_T := fp_T_of 791 (by decide +kernel) rfl
theorem twl_792 : Cond.instanceMethod yX11_goBack ∈ fp_T := fp_T_of 792 (by decide +kernel) rfl
theorem twl_793 : Cond.selects "FreePlace" yX11_goBack yX11_goBack ∈ fp_T := fp_T_of 793 (by decide +kernel) rfl
theorem twl_1181 : Cond.methodLink "FreePlaceLaw" 133 yX12_goBack ∈ fp_T := fp_T_of 1181 (by decide +kernel) rfl
theorem twl_1182 : Cond.instanceMethod yX12_goBack ∈ fp_T := fp_T_of 1182 (by decide +kernel) rfl
theorem twl_1183 : Cond.selects "FreePlaceModel" yX12_goBack yX12_goBack ∈ fp_T := fp_T_of 1183 (by decide +kernel) rfl
set_option maxHeartbeats 4000000 in
theorem fl_feed {p : Program} {l : Launch} {e : Env} {s : State} {m : MethodId} {args : Array Value} {below : List Frame} {meth : Method} {c : Code} {D : va_G} {G : Nat → ClassId} {B b L : Nat} {xs : Nat → Int32} {Q : State → Prop} {M : fp_Mem} {H : Heap} {locs : List Loc} {ls : Array Slot} (E : fp_EV p s m args meth c code 4 RL ret D G) (hX : va_X b L xs s s.heap) (hbl : b < s.heap.size) (hbA : ¬ fp_A B b) (j : Nat) (hin : ∀ k, k < 4 → vp_in (nI (4 * j) + nI k) L)
    (back : ∀ {M : fp_Mem} {H : Heap} {locs : List Loc} {ls : Array Slot}, fp_Inv M → fp_H D G B s M H locs → lv_has ls 4 [(3, .int (nI (4 * j))), (0, .ref b), (1, .ref (B + 0)), (2, .ref (B + 120))] → W p l e room_1 s m args below meth c H locs 140 2279 Q (F0 m 903 ls []))
    (hI : fp_Inv M) (hG : fp_H D G B s M H locs) (hl : lv_has ls 4 [(3, .int (nI (4 * j))), (0, .ref b), (1, .ref (B + 0)), (2, .ref (B + 120))]) : W p l e room_1 s m args below meth c H locs 140 2279 Q (F0 m 164 ls []) := by
  have hx := E.1
  have hb := E.2.1
  obtain ⟨r, M1, M2, h1, h2, hI⟩ := st_feed hI (xs (Int32.toNatClampNeg (nI (4 * j) + nI 1)))
  refine lv_aload_n hx hb dL_law_164 rfl (lv_at hl 2 rfl) ?_
  refine lv_aload_n hx hb dL_law_165 rfl (lv_at hl 1 rfl) ?_
  refine lv_iload_n hx hb dL_law_166 rfl (lv_at hl 0 rfl) ?_
  refine lv_iconst (v := nI 1) hx hb dL_law_167 (by decide) ?_
  refine lv_iadd hx hb dL_law_168 ?_
  refine va_sld hx hb hX hbl hbA hG.2 (hin 1 (by decide)) dL_law_169 ?_
  refine fp_callVi (As := [.int (xs (Int32.toNatClampNeg (nI (4 * j) + nI 1)))]) (rest := []) E hG (c_X11_feed l D G B h1) cv_X11_feed twl_347 twl_348 twl_349 ⟨rfl, rfl⟩ ⟨Nat.le_of_ble_eq_true rfl, Nat.le_of_ble_eq_true rfl⟩ (fp_recv E hG (by decide) (fp_o11 _) rfl) rfl rfl (Nat.le_of_ble_eq_true rfl) hl.1 dL_law_170 ⟨Nat.le_of_ble_eq_true rfl, Nat.le_of_ble_eq_true rfl⟩ (fun H locs hG => ?_)
  refine lv_aload_n hx hb dL_law_173 rfl (lv_at hl 3 rfl) ?_
  refine lv_aload_n hx hb dL_law_174 rfl (lv_at hl 1 rfl) ?_
  refine lv_iload_n hx hb dL_law_175 rfl (lv_at hl 0 rfl) ?_
  refine lv_iconst (v := nI 1) hx hb dL_law_176 (by decide) ?_
  refine lv_iadd hx hb dL_law_177 ?_
  refine va_sld hx hb hX hbl hbA hG.2 (hin 1 (by decide)) dL_law_178 ?_
  refine fp_callVi (As := [.int (xs (Int32.toNatClampNeg (nI (4 * j) + nI 1)))]) (rest := [.int r]) E hG (c_X12_feed l D G B h2) cv_X12_feed twl_911 twl_912 twl_913 ⟨rfl, rfl⟩ ⟨Nat.le_of_ble_eq_true rfl, Nat.le_of_ble_eq_true rfl⟩ (fp_recv E hG (by decide) (fp_o12 _) rfl) rfl rfl (Nat.le_of_ble_eq_true rfl) hl.1 dL_law_179 ⟨Nat.le_of_ble_eq_true rfl, Nat.le_of_ble_eq_true rfl⟩ (fun H locs hG => ?_)
  refine lv_icmp_eq (tgt := 903) hx hb dL_law_182 (by decide) (fun _ => ?_) (fun z => absurd rfl z)
  exact back hI hG hl
set_option maxHeartbeats 4000000 in
theorem fl_realm {p : Program} {l : Launch} {e : Env} {s : State} {m : MethodId} {args : Array Value} {below : List Frame} {meth : Method} {c : Code} {D : va_G} {G : Nat → ClassId} {B b L : Nat} {xs : Nat → Int32} {Q : State → Prop} {M : fp_Mem} {H : Heap} {locs : List Loc} {ls : Array Slot} (E : fp_EV p s m args meth c code 4 RL ret D G) (hX : va_X b L xs s s.heap) (hbl : b < s.heap.size) (hbA : ¬ fp_A B b) (j : Nat) (hin : ∀ k, k < 4 → vp_in (nI (4 * j) + nI k) L)
    (back : ∀ {M : fp_Mem} {H : Heap} {locs : List Loc} {ls : Array Slot}, fp_Inv M → fp_H D G B s M H locs → lv_has ls 4 [(3, .int (nI (4 * j))), (0, .ref b), (1, .ref (B + 0)), (2, .ref (B + 120))] → W p l e room_1 s m args below meth c H locs 140 2279 Q (F0 m 903 ls []))
    (hI : fp_Inv M) (hG : fp_H D G B s M H locs) (hl : lv_has ls 4 [(3, .int (nI (4 * j))), (0, .ref b), (1, .ref (B + 0)), (2, .ref (B + 120))]) : W p l e room_1 s m args below meth c H locs 140 2279 Q (F0 m 187 ls []) := by
  have hx := E.1
  have hb := E.2.1
  obtain ⟨r, M1, M2, h1, h2, hI⟩ := st_realm hI 
  refine lv_aload_n hx hb dL_law_187 rfl (lv_at hl 2 rfl) ?_
  refine fp_callVi (As := []) (rest := []) E hG (c_X11_realm l D G B h1) cv_X11_realm twl_357 twl_358 twl_359 ⟨rfl, rfl⟩ ⟨Nat.le_of_ble_eq_true rfl, Nat.le_of_ble_eq_true rfl⟩ (fp_recv E hG (by decide) (fp_o11 _) rfl) rfl rfl (Nat.le_of_ble_eq_true rfl) hl.1 dL_law_188 ⟨Nat.le_of_ble_eq_true rfl, Nat.le_of_ble_eq_true rfl⟩ (fun H locs hG => ?_)
  refine lv_aload_n hx hb dL_law_191 rfl (lv_at hl 3 rfl) ?_
  refine fp_callVi (As := []) (rest := [.int r]) E hG (c_X12_realm l D G B h2) cv_X12_realm twl_921 twl_922 twl_923 ⟨rfl, rfl⟩ ⟨Nat.le_of_ble_eq_true rfl, Nat.le_of_ble_eq_true rfl⟩ (fp_recv E hG (by decide) (fp_o12 _) rfl) rfl rfl (Nat.le_of_ble_eq_true rfl) hl.1 dL_law_192 ⟨Nat.le_of_ble_eq_true rfl, Nat.le_of_ble_eq_true rfl⟩ (fun H locs hG => ?_)
  refine lv_icmp_eq (tgt := 903) hx hb dL_law_195 (by decide) (fun _ => ?_) (fun z => absurd rfl z)
  exact back hI hG hl
set_option maxHeartbeats 4000000 in
theorem fl_fault {p : Program} {l : Launch} {e : Env} {s : State} {m : MethodId} {args : Array Value} {below : List Frame} {meth : Method} {c : Code} {D : va_G} {G : Nat → ClassId} {B b L : Nat} {xs : Nat → Int32} {Q : State → Prop} {M : fp_Mem} {H : Heap} {locs : List Loc} {ls : Array Slot} (E : fp_EV p s m args meth c code 4 RL ret D G) (hX : va_X b L xs s s.heap) (hbl : b < s.heap.size) (hbA : ¬ fp_A B b) (j : Nat) (hin : ∀ k, k < 4 → vp_in (nI (4 * j) + nI k) L)
    (back : ∀ {M : fp_Mem} {H : Heap} {locs : List Loc} {ls : Array Slot}, fp_Inv M → fp_H D G B s M H locs → lv_has ls 4 [(3, .int (nI (4 * j))), (0, .ref b), (1, .ref (B + 0)), (2, .ref (B + 120))] → W p l e room_1 s m args below meth c H locs 140 2279 Q (F0 m 903 ls []))
    (hI : fp_Inv M) (hG : fp_H D G B s M H locs) (hl : lv_has ls 4 [(3, .int (nI (4 * j))), (0, .ref b), (1, .ref (B + 0)), (2, .ref (B + 120))]) : W p l e room_1 s m args below meth c H locs 140 2279 Q (F0 m 200 ls []) := by
  have hx := E.1
  have hb := E.2.1
  obtain ⟨r, h1, h2, hI⟩ := st_fault hI 
  refine lv_aload_n hx hb dL_law_200 rfl (lv_at hl 2 rfl) ?_
  refine fp_callVi (As := []) (rest := []) E hG (c_X11_fault l D G B h1) cv_X11_fault twl_456 twl_457 twl_458 ⟨rfl, rfl⟩ ⟨Nat.le_of_ble_eq_true rfl, Nat.le_of_ble_eq_true rfl⟩ (fp_recv E hG (by decide) (fp_o11 _) rfl) rfl rfl (Nat.le_of_ble_eq_true rfl) hl.1 dL_law_201 ⟨Nat.le_of_ble_eq_true rfl, Nat.le_of_ble_eq_true rfl⟩ (fun H locs hG => ?_)
  refine lv_aload_n hx hb dL_law_204 rfl (lv_at hl 3 rfl) ?_
  refine fp_callVi (As := []) (rest := [.int r]) E hG (c_X12_fault l D G B h2) cv_X12_fault twl_967 twl_968 twl_969 ⟨rfl, rfl⟩ ⟨Nat.le_of_ble_eq_true rfl, Nat.le_of_ble_eq_true rfl⟩ (fp_recv E hG (by decide) (fp_o12 _) rfl) rfl rfl (Nat.le_of_ble_eq_true rfl) hl.1 dL_law_205 ⟨Nat.le_of_ble_eq_true rfl, Nat.le_of_ble_eq_true rfl⟩ (fun H locs hG => ?_)
  refine lv_icmp_eq (tgt := 903) hx hb dL_law_208 (by decide) (fun _ => ?_) (fun z => absurd rfl z)
  exact back hI hG hl
set_option maxHeartbeats 4000000 in
theorem fl_told {p : Program} {l : Launch} {e : Env} {s : State} {m : MethodId} {args : Array Value} {below : List Frame} {meth : Method} {c : Code} {D : va_G} {G : Nat → ClassId} {B b L : Nat} {xs : Nat → Int32} {Q : State → Prop} {M : fp_Mem} {H : Heap} {locs : List Loc} {ls : Array Slot} (E : fp_EV p s m args meth c code 4 RL ret D G) (hX : va_X b L xs s s.heap) (hbl : b < s.heap.size) (hbA : ¬ fp_A B b) (j : Nat) (hin : ∀ k, k < 4 → vp_in (nI (4 * j) + nI k) L)
    (back : ∀ {M : fp_Mem} {H : Heap} {locs : List Loc} {ls : Array Slot}, fp_Inv M → fp_H D G B s M H locs → lv_has ls 4 [(3, .int (nI (4 * j))), (0, .ref b), (1, .ref (B + 0)), (2, .ref (B + 120))] → W p l e room_1 s m args below meth c H locs 140 2279 Q (F0 m 903 ls []))
    (hI : fp_Inv M) (hG : fp_H D G B s M H locs) (hl : lv_has ls 4 [(3, .int (nI (4 * j))), (0, .ref b), (1, .ref (B + 0)), (2, .ref (B + 120))]) : W p l e room_1 s m args below meth c H locs 140 2279 Q (F0 m 213 ls []) := by
  have hx := E.1
  have hb := E.2.1
  obtain ⟨r, M1, M2, h1, h2, hI⟩ := st_told hI (xs (Int32.toNatClampNeg (nI (4 * j) + nI 1)))
  refine lv_aload_n hx hb dL_law_213 rfl (lv_at hl 2 rfl) ?_
  refine lv_aload_n hx hb dL_law_214 rfl (lv_at hl 1 rfl) ?_
  refine lv_iload_n hx hb dL_law_215 rfl (lv_at hl 0 rfl) ?_
  refine lv_iconst (v := nI 1) hx hb dL_law_216 (by decide) ?_
  refine lv_iadd hx hb dL_law_217 ?_
  refine va_sld hx hb hX hbl hbA hG.2 (hin 1 (by decide)) dL_law_218 ?_
  refine fp_callVi (As := [.int (xs (Int32.toNatClampNeg (nI (4 * j) + nI 1)))]) (rest := []) E hG (c_X11_told l D G B h1) cv_X11_told twl_460 twl_461 twl_462 ⟨rfl, rfl⟩ ⟨Nat.le_of_ble_eq_true rfl, Nat.le_of_ble_eq_true rfl⟩ (fp_recv E hG (by decide) (fp_o11 _) rfl) rfl rfl (Nat.le_of_ble_eq_true rfl) hl.1 dL_law_219 ⟨Nat.le_of_ble_eq_true rfl, Nat.le_of_ble_eq_true rfl⟩ (fun H locs hG => ?_)
  refine lv_aload_n hx hb dL_law_222 rfl (lv_at hl 3 rfl) ?_
  refine lv_aload_n hx hb dL_law_223 rfl (lv_at hl 1 rfl) ?_
  refine lv_iload_n hx hb dL_law_224 rfl (lv_at hl 0 rfl) ?_
  refine lv_iconst (v := nI 1) hx hb dL_law_225 (by decide) ?_
  refine lv_iadd hx hb dL_law_226 ?_
  refine va_sld hx hb hX hbl hbA hG.2 (hin 1 (by decide)) dL_law_227 ?_
  refine fp_callVi (As := [.int (xs (Int32.toNatClampNeg (nI (4 * j) + nI 1)))]) (rest := [.int r]) E hG (c_X12_told l D G B h2) cv_X12_told twl_971 twl_972 twl_973 ⟨rfl, rfl⟩ ⟨Nat.le_of_ble_eq_true rfl, Nat.le_of_ble_eq_true rfl⟩ (fp_recv E hG (by decide) (fp_o12 _) rfl) rfl rfl (Nat.le_of_ble_eq_true rfl) hl.1 dL_law_228 ⟨Nat.le_of_ble_eq_true rfl, Nat.le_of_ble_eq_true rfl⟩ (fun H locs hG => ?_)
  refine lv_icmp_eq (tgt := 903) hx hb dL_law_231 (by decide) (fun _ => ?_) (fun z => absurd rfl z)
  exact back hI hG hl
set_option maxHeartbeats 4000000 in
theorem fl_table {p : Program} {l : Launch} {e : Env} {s : State} {m : MethodId} {args : Array Value} {below : List Frame} {meth : Method} {c : Code} {D : va_G} {G : Nat → ClassId} {B b L : Nat} {xs : Nat → Int32} {Q : State → Prop} {M : fp_Mem} {H : Heap} {locs : List Loc} {ls : Array Slot} (E : fp_EV p s m args meth c code 4 RL ret D G) (hX : va_X b L xs s s.heap) (hbl : b < s.heap.size) (hbA : ¬ fp_A B b) (j : Nat) (hin : ∀ k, k < 4 → vp_in (nI (4 * j) + nI k) L)
    (back : ∀ {M : fp_Mem} {H : Heap} {locs : List Loc} {ls : Array Slot}, fp_Inv M → fp_H D G B s M H locs → lv_has ls 4 [(3, .int (nI (4 * j))), (0, .ref b), (1, .ref (B + 0)), (2, .ref (B + 120))] → W p l e room_1 s m args below meth c H locs 140 2279 Q (F0 m 903 ls []))
    (hI : fp_Inv M) (hG : fp_H D G B s M H locs) (hl : lv_has ls 4 [(3, .int (nI (4 * j))), (0, .ref b), (1, .ref (B + 0)), (2, .ref (B + 120))]) : W p l e room_1 s m args below meth c H locs 140 2279 Q (F0 m 236 ls []) := by
  have hx := E.1
  have hb := E.2.1
  obtain ⟨r, M1, h1, h2, hI⟩ := st_table hI (xs (Int32.toNatClampNeg (nI (4 * j) + nI 1))) (xs (Int32.toNatClampNeg (nI (4 * j) + nI 2)))
  refine lv_aload_n hx hb dL_law_236 rfl (lv_at hl 2 rfl) ?_
  refine lv_aload_n hx hb dL_law_237 rfl (lv_at hl 1 rfl) ?_
  refine lv_iload_n hx hb dL_law_238 rfl (lv_at hl 0 rfl) ?_
  refine lv_iconst (v := nI 1) hx hb dL_law_239 (by decide) ?_
  refine lv_iadd hx hb dL_law_240 ?_
  refine va_sld hx hb hX hbl hbA hG.2 (hin 1 (by decide)) dL_law_241 ?_
  refine lv_aload_n hx hb dL_law_242 rfl (lv_at hl 1 rfl) ?_
  refine lv_iload_n hx hb dL_law_243 rfl (lv_at hl 0 rfl) ?_
  refine lv_iconst (v := nI 2) hx hb dL_law_244 (by decide) ?_
  refine lv_iadd hx hb dL_law_245 ?_
  refine va_sld hx hb hX hbl hbA hG.2 (hin 2 (by decide)) dL_law_246 ?_
  refine fp_callVi (As := [.int (xs (Int32.toNatClampNeg (nI (4 * j) + nI 1))), .int (xs (Int32.toNatClampNeg (nI (4 * j) + nI 2)))]) (rest := []) E hG (c_X11_table l D G B h1) cv_X11_table twl_510 twl_511 twl_512 ⟨rfl, rfl⟩ ⟨Nat.le_of_ble_eq_true rfl, Nat.le_of_ble_eq_true rfl⟩ (fp_recv E hG (by decide) (fp_o11 _) rfl) rfl rfl (Nat.le_of_ble_eq_true rfl) hl.1 dL_law_247 ⟨Nat.le_of_ble_eq_true rfl, Nat.le_of_ble_eq_true rfl⟩ (fun H locs hG => ?_)
  refine lv_aload_n hx hb dL_law_250 rfl (lv_at hl 3 rfl) ?_
  refine lv_aload_n hx hb dL_law_251 rfl (lv_at hl 1 rfl) ?_
  refine lv_iload_n hx hb dL_law_252 rfl (lv_at hl 0 rfl) ?_
  refine lv_iconst (v := nI 1) hx hb dL_law_253 (by decide) ?_
  refine lv_iadd hx hb dL_law_254 ?_
  refine va_sld hx hb hX hbl hbA hG.2 (hin 1 (by decide)) dL_law_255 ?_
  refine lv_aload_n hx hb dL_law_256 rfl (lv_at hl 1 rfl) ?_
  refine lv_iload_n hx hb dL_law_257 rfl (lv_at hl 0 rfl) ?_
  refine lv_iconst (v := nI 2) hx hb dL_law_258 (by decide) ?_
  refine lv_iadd hx hb dL_law_259 ?_
  refine va_sld hx hb hX hbl hbA hG.2 (hin 2 (by decide)) dL_law_260 ?_
  refine fp_callVi (As := [.int (xs (Int32.toNatClampNeg (nI (4 * j) + nI 1))), .int (xs (Int32.toNatClampNeg (nI (4 * j) + nI 2)))]) (rest := [.int r]) E hG (c_X12_table l D G B h2) cv_X12_table twl_1002 twl_1003 twl_1004 ⟨rfl, rfl⟩ ⟨Nat.le_of_ble_eq_true rfl, Nat.le_of_ble_eq_true rfl⟩ (fp_recv E hG (by decide) (fp_o12 _) rfl) rfl rfl (Nat.le_of_ble_eq_true rfl) hl.1 dL_law_261 ⟨Nat.le_of_ble_eq_true rfl, Nat.le_of_ble_eq_true rfl⟩ (fun H locs hG => ?_)
  refine lv_icmp_eq (tgt := 903) hx hb dL_law_264 (by decide) (fun _ => ?_) (fun z => absurd rfl z)
  exact back hI hG hl
set_option maxHeartbeats 4000000 in
theorem fl_way {p : Program} {l : Launch} {e : Env} {s : State} {m : MethodId} {args : Array Value} {below : List Frame} {meth : Method} {c : Code} {D : va_G} {G : Nat → ClassId} {B b L : Nat} {xs : Nat → Int32} {Q : State → Prop} {M : fp_Mem} {H : Heap} {locs : List Loc} {ls : Array Slot} (E : fp_EV p s m args meth c code 4 RL ret D G) (hX : va_X b L xs s s.heap) (hbl : b < s.heap.size) (hbA : ¬ fp_A B b) (j : Nat) (hin : ∀ k, k < 4 → vp_in (nI (4 * j) + nI k) L)
    (back : ∀ {M : fp_Mem} {H : Heap} {locs : List Loc} {ls : Array Slot}, fp_Inv M → fp_H D G B s M H locs → lv_has ls 4 [(3, .int (nI (4 * j))), (0, .ref b), (1, .ref (B + 0)), (2, .ref (B + 120))] → W p l e room_1 s m args below meth c H locs 140 2279 Q (F0 m 903 ls []))
    (hI : fp_Inv M) (hG : fp_H D G B s M H locs) (hl : lv_has ls 4 [(3, .int (nI (4 * j))), (0, .ref b), (1, .ref (B + 0)), (2, .ref (B + 120))]) : W p l e room_1 s m args below meth c H locs 140 2279 Q (F0 m 269 ls []) := by
  have hx := E.1
  have hb := E.2.1
  obtain ⟨r, h1, h2, hI⟩ := st_way hI (xs (Int32.toNatClampNeg (nI (4 * j) + nI 1))) (xs (Int32.toNatClampNeg (nI (4 * j) + nI 2)))
  refine lv_aload_n hx hb dL_law_269 rfl (lv_at hl 2 rfl) ?_
  refine lv_aload_n hx hb dL_law_270 rfl (lv_at hl 1 rfl) ?_
  refine lv_iload_n hx hb dL_law_271 rfl (lv_at hl 0 rfl) ?_
  refine lv_iconst (v := nI 1) hx hb dL_law_272 (by decide) ?_
  refine lv_iadd hx hb dL_law_273 ?_
  refine va_sld hx hb hX hbl hbA hG.2 (hin 1 (by decide)) dL_law_274 ?_
  refine lv_aload_n hx hb dL_law_275 rfl (lv_at hl 1 rfl) ?_
  refine lv_iload_n hx hb dL_law_276 rfl (lv_at hl 0 rfl) ?_
  refine lv_iconst (v := nI 2) hx hb dL_law_277 (by decide) ?_
  refine lv_iadd hx hb dL_law_278 ?_
  refine va_sld hx hb hX hbl hbA hG.2 (hin 2 (by decide)) dL_law_279 ?_
  refine fp_callVi (As := [.int (xs (Int32.toNatClampNeg (nI (4 * j) + nI 1))), .int (xs (Int32.toNatClampNeg (nI (4 * j) + nI 2)))]) (rest := []) E hG (c_X11_way l D G B h1) cv_X11_way twl_523 twl_524 twl_525 ⟨rfl, rfl⟩ ⟨Nat.le_of_ble_eq_true rfl, Nat.le_of_ble_eq_true rfl⟩ (fp_recv E hG (by decide) (fp_o11 _) rfl) rfl rfl (Nat.le_of_ble_eq_true rfl) hl.1 dL_law_280 ⟨Nat.le_of_ble_eq_true rfl, Nat.le_of_ble_eq_true rfl⟩ (fun H locs hG => ?_)
  refine lv_aload_n hx hb dL_law_283 rfl (lv_at hl 3 rfl) ?_
  refine lv_aload_n hx hb dL_law_284 rfl (lv_at hl 1 rfl) ?_
  refine lv_iload_n hx hb dL_law_285 rfl (lv_at hl 0 rfl) ?_
  refine lv_iconst (v := nI 1) hx hb dL_law_286 (by decide) ?_
  refine lv_iadd hx hb dL_law_287 ?_
  refine va_sld hx hb hX hbl hbA hG.2 (hin 1 (by decide)) dL_law_288 ?_
  refine lv_aload_n hx hb dL_law_289 rfl (lv_at hl 1 rfl) ?_
  refine lv_iload_n hx hb dL_law_290 rfl (lv_at hl 0 rfl) ?_
  refine lv_iconst (v := nI 2) hx hb dL_law_291 (by decide) ?_
  refine lv_iadd hx hb dL_law_292 ?_
  refine va_sld hx hb hX hbl hbA hG.2 (hin 2 (by decide)) dL_law_293 ?_
  refine fp_callVi (As := [.int (xs (Int32.toNatClampNeg (nI (4 * j) + nI 1))), .int (xs (Int32.toNatClampNeg (nI (4 * j) + nI 2)))]) (rest := [.int r]) E hG (c_X12_way l D G B h2) cv_X12_way twl_1011 twl_1012 twl_1013 ⟨rfl, rfl⟩ ⟨Nat.le_of_ble_eq_true rfl, Nat.le_of_ble_eq_true rfl⟩ (fp_recv E hG (by decide) (fp_o12 _) rfl) rfl rfl (Nat.le_of_ble_eq_true rfl) hl.1 dL_law_294 ⟨Nat.le_of_ble_eq_true rfl, Nat.le_of_ble_eq_true rfl⟩ (fun H locs hG => ?_)
  refine lv_icmp_eq (tgt := 903) hx hb dL_law_297 (by decide) (fun _ => ?_) (fun z => absurd rfl z)
  exact back hI hG hl
set_option maxHeartbeats 4000000 in
theorem fl_come {p : Program} {l : Launch} {e : Env} {s : State} {m : MethodId} {args : Array Value} {below : List Frame} {meth : Method} {c : Code} {D : va_G} {G : Nat → ClassId} {B b L : Nat} {xs : Nat → Int32} {Q : State → Prop} {M : fp_Mem} {H : Heap} {locs : List Loc} {ls : Array Slot} (E : fp_EV p s m args meth c code 4 RL ret D G) (hX : va_X b L xs s s.heap) (hbl : b < s.heap.size) (hbA : ¬ fp_A B b) (j : Nat) (hin : ∀ k, k < 4 → vp_in (nI (4 * j) + nI k) L)
    (back : ∀ {M : fp_Mem} {H : Heap} {locs : List Loc} {ls : Array Slot}, fp_Inv M → fp_H D G B s M H locs → lv_has ls 4 [(3, .int (nI (4 * j))), (0, .ref b), (1, .ref (B + 0)), (2, .ref (B + 120))] → W p l e room_1 s m args below meth c H locs 140 2279 Q (F0 m 903 ls []))
    (hI : fp_Inv M) (hG : fp_H D G B s M H locs) (hl : lv_has ls 4 [(3, .int (nI (4 * j))), (0, .ref b), (1, .ref (B + 0)), (2, .ref (B + 120))]) : W p l e room_1 s m args below meth c H locs 140 2279 Q (F0 m 302 ls []) := by
  have hx := E.1
  have hb := E.2.1
  obtain ⟨r, M1, M2, h1, h2, hI⟩ := st_come hI (xs (Int32.toNatClampNeg (nI (4 * j) + nI 1)))
  refine lv_aload_n hx hb dL_law_302 rfl (lv_at hl 2 rfl) ?_
  refine lv_aload_n hx hb dL_law_303 rfl (lv_at hl 1 rfl) ?_
  refine lv_iload_n hx hb dL_law_304 rfl (lv_at hl 0 rfl) ?_
  refine lv_iconst (v := nI 1) hx hb dL_law_305 (by decide) ?_
  refine lv_iadd hx hb dL_law_306 ?_
  refine va_sld hx hb hX hbl hbA hG.2 (hin 1 (by decide)) dL_law_307 ?_
  refine fp_callVi (As := [.int (xs (Int32.toNatClampNeg (nI (4 * j) + nI 1)))]) (rest := []) E hG (c_X11_come l D G B h1) cv_X11_come twl_535 twl_536 twl_537 ⟨rfl, rfl⟩ ⟨Nat.le_of_ble_eq_true rfl, Nat.le_of_ble_eq_true rfl⟩ (fp_recv E hG (by decide) (fp_o11 _) rfl) rfl rfl (Nat.le_of_ble_eq_true rfl) hl.1 dL_law_308 ⟨Nat.le_of_ble_eq_true rfl, Nat.le_of_ble_eq_true rfl⟩ (fun H locs hG => ?_)
  refine lv_aload_n hx hb dL_law_311 rfl (lv_at hl 3 rfl) ?_
  refine lv_aload_n hx hb dL_law_312 rfl (lv_at hl 1 rfl) ?_
  refine lv_iload_n hx hb dL_law_313 rfl (lv_at hl 0 rfl) ?_
  refine lv_iconst (v := nI 1) hx hb dL_law_314 (by decide) ?_
  refine lv_iadd hx hb dL_law_315 ?_
  refine va_sld hx hb hX hbl hbA hG.2 (hin 1 (by decide)) dL_law_316 ?_
  refine fp_callVi (As := [.int (xs (Int32.toNatClampNeg (nI (4 * j) + nI 1)))]) (rest := [.int r]) E hG (c_X12_come l D G B h2) cv_X12_come twl_1015 twl_1016 twl_1017 ⟨rfl, rfl⟩ ⟨Nat.le_of_ble_eq_true rfl, Nat.le_of_ble_eq_true rfl⟩ (fp_recv E hG (by decide) (fp_o12 _) rfl) rfl rfl (Nat.le_of_ble_eq_true rfl) hl.1 dL_law_317 ⟨Nat.le_of_ble_eq_true rfl, Nat.le_of_ble_eq_true rfl⟩ (fun H locs hG => ?_)
  refine lv_icmp_eq (tgt := 903) hx hb dL_law_320 (by decide) (fun _ => ?_) (fun z => absurd rfl z)
  exact back hI hG hl
set_option maxHeartbeats 4000000 in
theorem fl_go {p : Program} {l : Launch} {e : Env} {s : State} {m : MethodId} {args : Array Value} {below : List Frame} {meth : Method} {c : Code} {D : va_G} {G : Nat → ClassId} {B b L : Nat} {xs : Nat → Int32} {Q : State → Prop} {M : fp_Mem} {H : Heap} {locs : List Loc} {ls : Array Slot} (E : fp_EV p s m args meth c code 4 RL ret D G) (hX : va_X b L xs s s.heap) (hbl : b < s.heap.size) (hbA : ¬ fp_A B b) (j : Nat) (hin : ∀ k, k < 4 → vp_in (nI (4 * j) + nI k) L)
    (back : ∀ {M : fp_Mem} {H : Heap} {locs : List Loc} {ls : Array Slot}, fp_Inv M → fp_H D G B s M H locs → lv_has ls 4 [(3, .int (nI (4 * j))), (0, .ref b), (1, .ref (B + 0)), (2, .ref (B + 120))] → W p l e room_1 s m args below meth c H locs 140 2279 Q (F0 m 903 ls []))
    (hI : fp_Inv M) (hG : fp_H D G B s M H locs) (hl : lv_has ls 4 [(3, .int (nI (4 * j))), (0, .ref b), (1, .ref (B + 0)), (2, .ref (B + 120))]) : W p l e room_1 s m args below meth c H locs 140 2279 Q (F0 m 325 ls []) := by
  have hx := E.1
  have hb := E.2.1
  obtain ⟨r, M1, M2, h1, h2, hI⟩ := st_go hI (xs (Int32.toNatClampNeg (nI (4 * j) + nI 1)))
  refine lv_aload_n hx hb dL_law_325 rfl (lv_at hl 2 rfl) ?_
  refine lv_aload_n hx hb dL_law_326 rfl (lv_at hl 1 rfl) ?_
  refine lv_iload_n hx hb dL_law_327 rfl (lv_at hl 0 rfl) ?_
  refine lv_iconst (v := nI 1) hx hb dL_law_328 (by decide) ?_
  refine lv_iadd hx hb dL_law_329 ?_
  refine va_sld hx hb hX hbl hbA hG.2 (hin 1 (by decide)) dL_law_330 ?_
  refine fp_callVi (As := [.int (xs (Int32.toNatClampNeg (nI (4 * j) + nI 1)))]) (rest := []) E hG (c_X11_go l D G B h1) cv_X11_go twl_572 twl_573 twl_574 ⟨rfl, rfl⟩ ⟨Nat.le_of_ble_eq_true rfl, Nat.le_of_ble_eq_true rfl⟩ (fp_recv E hG (by decide) (fp_o11 _) rfl) rfl rfl (Nat.le_of_ble_eq_true rfl) hl.1 dL_law_331 ⟨Nat.le_of_ble_eq_true rfl, Nat.le_of_ble_eq_true rfl⟩ (fun H locs hG => ?_)
  refine lv_aload_n hx hb dL_law_334 rfl (lv_at hl 3 rfl) ?_
  refine lv_aload_n hx hb dL_law_335 rfl (lv_at hl 1 rfl) ?_
  refine lv_iload_n hx hb dL_law_336 rfl (lv_at hl 0 rfl) ?_
  refine lv_iconst (v := nI 1) hx hb dL_law_337 (by decide) ?_
  refine lv_iadd hx hb dL_law_338 ?_
  refine va_sld hx hb hX hbl hbA hG.2 (hin 1 (by decide)) dL_law_339 ?_
  refine fp_callVi (As := [.int (xs (Int32.toNatClampNeg (nI (4 * j) + nI 1)))]) (rest := [.int r]) E hG (c_X12_go l D G B h2) cv_X12_go twl_1036 twl_1037 twl_1038 ⟨rfl, rfl⟩ ⟨Nat.le_of_ble_eq_true rfl, Nat.le_of_ble_eq_true rfl⟩ (fp_recv E hG (by decide) (fp_o12 _) rfl) rfl rfl (Nat.le_of_ble_eq_true rfl) hl.1 dL_law_340 ⟨Nat.le_of_ble_eq_true rfl, Nat.le_of_ble_eq_true rfl⟩ (fun H locs hG => ?_)
  refine lv_icmp_eq (tgt := 903) hx hb dL_law_343 (by decide) (fun _ => ?_) (fun z => absurd rfl z)
  exact back hI hG hl
set_option maxHeartbeats 4000000 in
theorem fl_build {p : Program} {l : Launch} {e : Env} {s : State} {m : MethodId} {args : Array Value} {below : List Frame} {meth : Method} {c : Code} {D : va_G} {G : Nat → ClassId} {B b L : Nat} {xs : Nat → Int32} {Q : State → Prop} {M : fp_Mem} {H : Heap} {locs : List Loc} {ls : Array Slot} (E : fp_EV p s m args meth c code 4 RL ret D G) (hX : va_X b L xs s s.heap) (hbl : b < s.heap.size) (hbA : ¬ fp_A B b) (j : Nat) (hin : ∀ k, k < 4 → vp_in (nI (4 * j) + nI k) L)
    (back : ∀ {M : fp_Mem} {H : Heap} {locs : List Loc} {ls : Array Slot}, fp_Inv M → fp_H D G B s M H locs → lv_has ls 4 [(3, .int (nI (4 * j))), (0, .ref b), (1, .ref (B + 0)), (2, .ref (B + 120))] → W p l e room_1 s m args below meth c H locs 140 2279 Q (F0 m 903 ls []))
    (hI : fp_Inv M) (hG : fp_H D G B s M H locs) (hl : lv_has ls 4 [(3, .int (nI (4 * j))), (0, .ref b), (1, .ref (B + 0)), (2, .ref (B + 120))]) : W p l e room_1 s m args below meth c H locs 140 2279 Q (F0 m 348 ls []) := by
  have hx := E.1
  have hb := E.2.1
  obtain ⟨r, M1, M2, h1, h2, hI⟩ := st_build hI (xs (Int32.toNatClampNeg (nI (4 * j) + nI 1)))
  refine lv_aload_n hx hb dL_law_348 rfl (lv_at hl 2 rfl) ?_
  refine lv_aload_n hx hb dL_law_349 rfl (lv_at hl 1 rfl) ?_
  refine lv_iload_n hx hb dL_law_350 rfl (lv_at hl 0 rfl) ?_
  refine lv_iconst (v := nI 1) hx hb dL_law_351 (by decide) ?_
  refine lv_iadd hx hb dL_law_352 ?_
  refine va_sld hx hb hX hbl hbA hG.2 (hin 1 (by decide)) dL_law_353 ?_
  refine fp_callVi (As := [.int (xs (Int32.toNatClampNeg (nI (4 * j) + nI 1)))]) (rest := []) E hG (c_X11_build l D G B h1) cv_X11_build twl_577 twl_578 twl_579 ⟨rfl, rfl⟩ ⟨Nat.le_of_ble_eq_true rfl, Nat.le_of_ble_eq_true rfl⟩ (fp_recv E hG (by decide) (fp_o11 _) rfl) rfl rfl (Nat.le_of_ble_eq_true rfl) hl.1 dL_law_354 ⟨Nat.le_of_ble_eq_true rfl, Nat.le_of_ble_eq_true rfl⟩ (fun H locs hG => ?_)
  refine lv_aload_n hx hb dL_law_357 rfl (lv_at hl 3 rfl) ?_
  refine lv_aload_n hx hb dL_law_358 rfl (lv_at hl 1 rfl) ?_
  refine lv_iload_n hx hb dL_law_359 rfl (lv_at hl 0 rfl) ?_
  refine lv_iconst (v := nI 1) hx hb dL_law_360 (by decide) ?_
  refine lv_iadd hx hb dL_law_361 ?_
  refine va_sld hx hb hX hbl hbA hG.2 (hin 1 (by decide)) dL_law_362 ?_
  refine fp_callVi (As := [.int (xs (Int32.toNatClampNeg (nI (4 * j) + nI 1)))]) (rest := [.int r]) E hG (c_X12_build l D G B h2) cv_X12_build twl_1041 twl_1042 twl_1043 ⟨rfl, rfl⟩ ⟨Nat.le_of_ble_eq_true rfl, Nat.le_of_ble_eq_true rfl⟩ (fp_recv E hG (by decide) (fp_o12 _) rfl) rfl rfl (Nat.le_of_ble_eq_true rfl) hl.1 dL_law_363 ⟨Nat.le_of_ble_eq_true rfl, Nat.le_of_ble_eq_true rfl⟩ (fun H locs hG => ?_)
  refine lv_icmp_eq (tgt := 903) hx hb dL_law_366 (by decide) (fun _ => ?_) (fun z => absurd rfl z)
  exact back hI hG hl
set_option maxHeartbeats 4000000 in
theorem fl_breakOne {p : Program} {l : Launch} {e : Env} {s : State} {m : MethodId} {args : Array Value} {below : List Frame} {meth : Method} {c : Code} {D : va_G} {G : Nat → ClassId} {B b L : Nat} {xs : Nat → Int32} {Q : State → Prop} {M : fp_Mem} {H : Heap} {locs : List Loc} {ls : Array Slot} (E : fp_EV p s m args meth c code 4 RL ret D G) (hX : va_X b L xs s s.heap) (hbl : b < s.heap.size) (hbA : ¬ fp_A B b) (j : Nat) (hin : ∀ k, k < 4 → vp_in (nI (4 * j) + nI k) L)
    (back : ∀ {M : fp_Mem} {H : Heap} {locs : List Loc} {ls : Array Slot}, fp_Inv M → fp_H D G B s M H locs → lv_has ls 4 [(3, .int (nI (4 * j))), (0, .ref b), (1, .ref (B + 0)), (2, .ref (B + 120))] → W p l e room_1 s m args below meth c H locs 140 2279 Q (F0 m 903 ls []))
    (hI : fp_Inv M) (hG : fp_H D G B s M H locs) (hl : lv_has ls 4 [(3, .int (nI (4 * j))), (0, .ref b), (1, .ref (B + 0)), (2, .ref (B + 120))]) : W p l e room_1 s m args below meth c H locs 140 2279 Q (F0 m 371 ls []) := by
  have hx := E.1
  have hb := E.2.1
  obtain ⟨r, M1, M2, h1, h2, hI⟩ := st_breakOne hI (xs (Int32.toNatClampNeg (nI (4 * j) + nI 1)))
  refine lv_aload_n hx hb dL_law_371 rfl (lv_at hl 2 rfl) ?_
  refine lv_aload_n hx hb dL_law_372 rfl (lv_at hl 1 rfl) ?_
  refine lv_iload_n hx hb dL_law_373 rfl (lv_at hl 0 rfl) ?_
  refine lv_iconst (v := nI 1) hx hb dL_law_374 (by decide) ?_
  refine lv_iadd hx hb dL_law_375 ?_
  refine va_sld hx hb hX hbl hbA hG.2 (hin 1 (by decide)) dL_law_376 ?_
  refine fp_callVi (As := [.int (xs (Int32.toNatClampNeg (nI (4 * j) + nI 1)))]) (rest := []) E hG (c_X11_breakOne l D G B h1) cv_X11_breakOne twl_581 twl_582 twl_583 ⟨rfl, rfl⟩ ⟨Nat.le_of_ble_eq_true rfl, Nat.le_of_ble_eq_true rfl⟩ (fp_recv E hG (by decide) (fp_o11 _) rfl) rfl rfl (Nat.le_of_ble_eq_true rfl) hl.1 dL_law_377 ⟨Nat.le_of_ble_eq_true rfl, Nat.le_of_ble_eq_true rfl⟩ (fun H locs hG => ?_)
  refine lv_aload_n hx hb dL_law_380 rfl (lv_at hl 3 rfl) ?_
  refine lv_aload_n hx hb dL_law_381 rfl (lv_at hl 1 rfl) ?_
  refine lv_iload_n hx hb dL_law_382 rfl (lv_at hl 0 rfl) ?_
  refine lv_iconst (v := nI 1) hx hb dL_law_383 (by decide) ?_
  refine lv_iadd hx hb dL_law_384 ?_
  refine va_sld hx hb hX hbl hbA hG.2 (hin 1 (by decide)) dL_law_385 ?_
  refine fp_callVi (As := [.int (xs (Int32.toNatClampNeg (nI (4 * j) + nI 1)))]) (rest := [.int r]) E hG (c_X12_breakOne l D G B h2) cv_X12_breakOne twl_1045 twl_1046 twl_1047 ⟨rfl, rfl⟩ ⟨Nat.le_of_ble_eq_true rfl, Nat.le_of_ble_eq_true rfl⟩ (fp_recv E hG (by decide) (fp_o12 _) rfl) rfl rfl (Nat.le_of_ble_eq_true rfl) hl.1 dL_law_386 ⟨Nat.le_of_ble_eq_true rfl, Nat.le_of_ble_eq_true rfl⟩ (fun H locs hG => ?_)
  refine lv_icmp_eq (tgt := 903) hx hb dL_law_389 (by decide) (fun _ => ?_) (fun z => absurd rfl z)
  exact back hI hG hl
set_option maxHeartbeats 4000000 in
theorem fl_shut {p : Program} {l : Launch} {e : Env} {s : State} {m : MethodId} {args : Array Value} {below : List Frame} {meth : Method} {c : Code} {D : va_G} {G : Nat → ClassId} {B b L : Nat} {xs : Nat → Int32} {Q : State → Prop} {M : fp_Mem} {H : Heap} {locs : List Loc} {ls : Array Slot} (E : fp_EV p s m args meth c code 4 RL ret D G) (hX : va_X b L xs s s.heap) (hbl : b < s.heap.size) (hbA : ¬ fp_A B b) (j : Nat) (hin : ∀ k, k < 4 → vp_in (nI (4 * j) + nI k) L)
    (back : ∀ {M : fp_Mem} {H : Heap} {locs : List Loc} {ls : Array Slot}, fp_Inv M → fp_H D G B s M H locs → lv_has ls 4 [(3, .int (nI (4 * j))), (0, .ref b), (1, .ref (B + 0)), (2, .ref (B + 120))] → W p l e room_1 s m args below meth c H locs 140 2279 Q (F0 m 903 ls []))
    (hI : fp_Inv M) (hG : fp_H D G B s M H locs) (hl : lv_has ls 4 [(3, .int (nI (4 * j))), (0, .ref b), (1, .ref (B + 0)), (2, .ref (B + 120))]) : W p l e room_1 s m args below meth c H locs 140 2279 Q (F0 m 394 ls []) := by
  have hx := E.1
  have hb := E.2.1
  by_cases qz : (xs (Int32.toNatClampNeg (nI (4 * j) + nI 2))) = 0
  · obtain ⟨r, M1, M2, h1, h2, hI⟩ := st_shut hI (xs (Int32.toNatClampNeg (nI (4 * j) + nI 1))) (nI 0) (by decide)
    refine lv_aload_n hx hb dL_law_394 rfl (lv_at hl 2 rfl) ?_
    refine lv_aload_n hx hb dL_law_395 rfl (lv_at hl 1 rfl) ?_
    refine lv_iload_n hx hb dL_law_396 rfl (lv_at hl 0 rfl) ?_
    refine lv_iconst (v := nI 1) hx hb dL_law_397 (by decide) ?_
    refine lv_iadd hx hb dL_law_398 ?_
    refine va_sld hx hb hX hbl hbA hG.2 (hin 1 (by decide)) dL_law_399 ?_
    refine lv_aload_n hx hb dL_law_400 rfl (lv_at hl 1 rfl) ?_
    refine lv_iload_n hx hb dL_law_401 rfl (lv_at hl 0 rfl) ?_
    refine lv_iconst (v := nI 2) hx hb dL_law_402 (by decide) ?_
    refine lv_iadd hx hb dL_law_403 ?_
    refine va_sld hx hb hX hbl hbA hG.2 (hin 2 (by decide)) dL_law_404 ?_
    refine lv_if_eq (tgt := 412) hx hb dL_law_405 (by decide) (fun _ => ?_) (fun z => absurd qz z)
    refine lv_iconst (v := nI 0) hx hb dL_law_412 (by decide) ?_
    refine fp_callVi (As := [.int (xs (Int32.toNatClampNeg (nI (4 * j) + nI 1))), .int (nI 0)]) (rest := []) E hG (c_X11_shut l D G B h1) cv_X11_shut twl_585 twl_586 twl_587 ⟨rfl, rfl⟩ ⟨Nat.le_of_ble_eq_true rfl, Nat.le_of_ble_eq_true rfl⟩ (fp_recv E hG (by decide) (fp_o11 _) rfl) rfl rfl (Nat.le_of_ble_eq_true rfl) hl.1 dL_law_413 ⟨Nat.le_of_ble_eq_true rfl, Nat.le_of_ble_eq_true rfl⟩ (fun H locs hG => ?_)
    refine lv_aload_n hx hb dL_law_416 rfl (lv_at hl 3 rfl) ?_
    refine lv_aload_n hx hb dL_law_417 rfl (lv_at hl 1 rfl) ?_
    refine lv_iload_n hx hb dL_law_418 rfl (lv_at hl 0 rfl) ?_
    refine lv_iconst (v := nI 1) hx hb dL_law_419 (by decide) ?_
    refine lv_iadd hx hb dL_law_420 ?_
    refine va_sld hx hb hX hbl hbA hG.2 (hin 1 (by decide)) dL_law_421 ?_
    refine lv_aload_n hx hb dL_law_422 rfl (lv_at hl 1 rfl) ?_
    refine lv_iload_n hx hb dL_law_423 rfl (lv_at hl 0 rfl) ?_
    refine lv_iconst (v := nI 2) hx hb dL_law_424 (by decide) ?_
    refine lv_iadd hx hb dL_law_425 ?_
    refine va_sld hx hb hX hbl hbA hG.2 (hin 2 (by decide)) dL_law_426 ?_
    refine lv_if_eq (tgt := 434) hx hb dL_law_427 (by decide) (fun _ => ?_) (fun z => absurd qz z)
    refine lv_iconst (v := nI 0) hx hb dL_law_434 (by decide) ?_
    refine fp_callVi (As := [.int (xs (Int32.toNatClampNeg (nI (4 * j) + nI 1))), .int (nI 0)]) (rest := [.int r]) E hG (c_X12_shut l D G B h2) cv_X12_shut twl_1049 twl_1050 twl_1051 ⟨rfl, rfl⟩ ⟨Nat.le_of_ble_eq_true rfl, Nat.le_of_ble_eq_true rfl⟩ (fp_recv E hG (by decide) (fp_o12 _) rfl) rfl rfl (Nat.le_of_ble_eq_true rfl) hl.1 dL_law_435 ⟨Nat.le_of_ble_eq_true rfl, Nat.le_of_ble_eq_true rfl⟩ (fun H locs hG => ?_)
    refine lv_icmp_eq (tgt := 903) hx hb dL_law_438 (by decide) (fun _ => ?_) (fun z => absurd rfl z)
    exact back hI hG hl
  · obtain ⟨r, M1, M2, h1, h2, hI⟩ := st_shut hI (xs (Int32.toNatClampNeg (nI (4 * j) + nI 1))) (nI 1) (by decide)
    refine lv_aload_n hx hb dL_law_394 rfl (lv_at hl 2 rfl) ?_
    refine lv_aload_n hx hb dL_law_395 rfl (lv_at hl 1 rfl) ?_
    refine lv_iload_n hx hb dL_law_396 rfl (lv_at hl 0 rfl) ?_
    refine lv_iconst (v := nI 1) hx hb dL_law_397 (by decide) ?_
    refine lv_iadd hx hb dL_law_398 ?_
    refine va_sld hx hb hX hbl hbA hG.2 (hin 1 (by decide)) dL_law_399 ?_
    refine lv_aload_n hx hb dL_law_400 rfl (lv_at hl 1 rfl) ?_
    refine lv_iload_n hx hb dL_law_401 rfl (lv_at hl 0 rfl) ?_
    refine lv_iconst (v := nI 2) hx hb dL_law_402 (by decide) ?_
    refine lv_iadd hx hb dL_law_403 ?_
    refine va_sld hx hb hX hbl hbA hG.2 (hin 2 (by decide)) dL_law_404 ?_
    refine lv_if_eq (tgt := 412) hx hb dL_law_405 (by decide) (fun z => absurd z qz) (fun _ => ?_)
    refine lv_iconst (v := nI 1) hx hb dL_law_408 (by decide) ?_
    refine lv_goto (tgt := 413) hx hb dL_law_409 (by decide) ?_
    refine fp_callVi (As := [.int (xs (Int32.toNatClampNeg (nI (4 * j) + nI 1))), .int (nI 1)]) (rest := []) E hG (c_X11_shut l D G B h1) cv_X11_shut twl_585 twl_586 twl_587 ⟨rfl, rfl⟩ ⟨Nat.le_of_ble_eq_true rfl, Nat.le_of_ble_eq_true rfl⟩ (fp_recv E hG (by decide) (fp_o11 _) rfl) rfl rfl (Nat.le_of_ble_eq_true rfl) hl.1 dL_law_413 ⟨Nat.le_of_ble_eq_true rfl, Nat.le_of_ble_eq_true rfl⟩ (fun H locs hG => ?_)
    refine lv_aload_n hx hb dL_law_416 rfl (lv_at hl 3 rfl) ?_
    refine lv_aload_n hx hb dL_law_417 rfl (lv_at hl 1 rfl) ?_
    refine lv_iload_n hx hb dL_law_418 rfl (lv_at hl 0 rfl) ?_
    refine lv_iconst (v := nI 1) hx hb dL_law_419 (by decide) ?_
    refine lv_iadd hx hb dL_law_420 ?_
    refine va_sld hx hb hX hbl hbA hG.2 (hin 1 (by decide)) dL_law_421 ?_
    refine lv_aload_n hx hb dL_law_422 rfl (lv_at hl 1 rfl) ?_
    refine lv_iload_n hx hb dL_law_423 rfl (lv_at hl 0 rfl) ?_
    refine lv_iconst (v := nI 2) hx hb dL_law_424 (by decide) ?_
    refine lv_iadd hx hb dL_law_425 ?_
    refine va_sld hx hb hX hbl hbA hG.2 (hin 2 (by decide)) dL_law_426 ?_
    refine lv_if_eq (tgt := 434) hx hb dL_law_427 (by decide) (fun z => absurd z qz) (fun _ => ?_)
    refine lv_iconst (v := nI 1) hx hb dL_law_430 (by decide) ?_
    refine lv_goto (tgt := 435) hx hb dL_law_431 (by decide) ?_
    refine fp_callVi (As := [.int (xs (Int32.toNatClampNeg (nI (4 * j) + nI 1))), .int (nI 1)]) (rest := [.int r]) E hG (c_X12_shut l D G B h2) cv_X12_shut twl_1049 twl_1050 twl_1051 ⟨rfl, rfl⟩ ⟨Nat.le_of_ble_eq_true rfl, Nat.le_of_ble_eq_true rfl⟩ (fp_recv E hG (by decide) (fp_o12 _) rfl) rfl rfl (Nat.le_of_ble_eq_true rfl) hl.1 dL_law_435 ⟨Nat.le_of_ble_eq_true rfl, Nat.le_of_ble_eq_true rfl⟩ (fun H locs hG => ?_)
    refine lv_icmp_eq (tgt := 903) hx hb dL_law_438 (by decide) (fun _ => ?_) (fun z => absurd rfl z)
    exact back hI hG hl
set_option maxHeartbeats 4000000 in
theorem fl_drift {p : Program} {l : Launch} {e : Env} {s : State} {m : MethodId} {args : Array Value} {below : List Frame} {meth : Method} {c : Code} {D : va_G} {G : Nat → ClassId} {B b L : Nat} {xs : Nat → Int32} {Q : State → Prop} {M : fp_Mem} {H : Heap} {locs : List Loc} {ls : Array Slot} (E : fp_EV p s m args meth c code 4 RL ret D G) (hX : va_X b L xs s s.heap) (hbl : b < s.heap.size) (hbA : ¬ fp_A B b) (j : Nat) (hin : ∀ k, k < 4 → vp_in (nI (4 * j) + nI k) L)
    (back : ∀ {M : fp_Mem} {H : Heap} {locs : List Loc} {ls : Array Slot}, fp_Inv M → fp_H D G B s M H locs → lv_has ls 4 [(3, .int (nI (4 * j))), (0, .ref b), (1, .ref (B + 0)), (2, .ref (B + 120))] → W p l e room_1 s m args below meth c H locs 140 2279 Q (F0 m 903 ls []))
    (hI : fp_Inv M) (hG : fp_H D G B s M H locs) (hl : lv_has ls 4 [(3, .int (nI (4 * j))), (0, .ref b), (1, .ref (B + 0)), (2, .ref (B + 120))]) : W p l e room_1 s m args below meth c H locs 140 2279 Q (F0 m 443 ls []) := by
  have hx := E.1
  have hb := E.2.1
  obtain ⟨r, M1, M2, h1, h2, hI⟩ := st_drift hI (xs (Int32.toNatClampNeg (nI (4 * j) + nI 1)))
  refine lv_aload_n hx hb dL_law_443 rfl (lv_at hl 2 rfl) ?_
  refine lv_aload_n hx hb dL_law_444 rfl (lv_at hl 1 rfl) ?_
  refine lv_iload_n hx hb dL_law_445 rfl (lv_at hl 0 rfl) ?_
  refine lv_iconst (v := nI 1) hx hb dL_law_446 (by decide) ?_
  refine lv_iadd hx hb dL_law_447 ?_
  refine va_sld hx hb hX hbl hbA hG.2 (hin 1 (by decide)) dL_law_448 ?_
  refine fp_callVi (As := [.int (xs (Int32.toNatClampNeg (nI (4 * j) + nI 1)))]) (rest := []) E hG (c_X11_drift l D G B h1) cv_X11_drift twl_593 twl_594 twl_595 ⟨rfl, rfl⟩ ⟨Nat.le_of_ble_eq_true rfl, Nat.le_of_ble_eq_true rfl⟩ (fp_recv E hG (by decide) (fp_o11 _) rfl) rfl rfl (Nat.le_of_ble_eq_true rfl) hl.1 dL_law_449 ⟨Nat.le_of_ble_eq_true rfl, Nat.le_of_ble_eq_true rfl⟩ (fun H locs hG => ?_)
  refine lv_aload_n hx hb dL_law_452 rfl (lv_at hl 3 rfl) ?_
  refine lv_aload_n hx hb dL_law_453 rfl (lv_at hl 1 rfl) ?_
  refine lv_iload_n hx hb dL_law_454 rfl (lv_at hl 0 rfl) ?_
  refine lv_iconst (v := nI 1) hx hb dL_law_455 (by decide) ?_
  refine lv_iadd hx hb dL_law_456 ?_
  refine va_sld hx hb hX hbl hbA hG.2 (hin 1 (by decide)) dL_law_457 ?_
  refine fp_callVi (As := [.int (xs (Int32.toNatClampNeg (nI (4 * j) + nI 1)))]) (rest := [.int r]) E hG (c_X12_drift l D G B h2) cv_X12_drift twl_1053 twl_1054 twl_1055 ⟨rfl, rfl⟩ ⟨Nat.le_of_ble_eq_true rfl, Nat.le_of_ble_eq_true rfl⟩ (fp_recv E hG (by decide) (fp_o12 _) rfl) rfl rfl (Nat.le_of_ble_eq_true rfl) hl.1 dL_law_458 ⟨Nat.le_of_ble_eq_true rfl, Nat.le_of_ble_eq_true rfl⟩ (fun H locs hG => ?_)
  refine lv_icmp_eq (tgt := 903) hx hb dL_law_461 (by decide) (fun _ => ?_) (fun z => absurd rfl z)
  exact back hI hG hl
set_option maxHeartbeats 4000000 in
theorem fl_undo {p : Program} {l : Launch} {e : Env} {s : State} {m : MethodId} {args : Array Value} {below : List Frame} {meth : Method} {c : Code} {D : va_G} {G : Nat → ClassId} {B b L : Nat} {xs : Nat → Int32} {Q : State → Prop} {M : fp_Mem} {H : Heap} {locs : List Loc} {ls : Array Slot} (E : fp_EV p s m args meth c code 4 RL ret D G) (hX : va_X b L xs s s.heap) (hbl : b < s.heap.size) (hbA : ¬ fp_A B b) (j : Nat) (hin : ∀ k, k < 4 → vp_in (nI (4 * j) + nI k) L)
    (back : ∀ {M : fp_Mem} {H : Heap} {locs : List Loc} {ls : Array Slot}, fp_Inv M → fp_H D G B s M H locs → lv_has ls 4 [(3, .int (nI (4 * j))), (0, .ref b), (1, .ref (B + 0)), (2, .ref (B + 120))] → W p l e room_1 s m args below meth c H locs 140 2279 Q (F0 m 903 ls []))
    (hI : fp_Inv M) (hG : fp_H D G B s M H locs) (hl : lv_has ls 4 [(3, .int (nI (4 * j))), (0, .ref b), (1, .ref (B + 0)), (2, .ref (B + 120))]) : W p l e room_1 s m args below meth c H locs 140 2279 Q (F0 m 466 ls []) := by
  have hx := E.1
  have hb := E.2.1
  obtain ⟨r, M1, M2, h1, h2, hI⟩ := st_undo hI 
  refine lv_aload_n hx hb dL_law_466 rfl (lv_at hl 2 rfl) ?_
  refine fp_callVi (As := []) (rest := []) E hG (c_X11_undo l D G B h1) cv_X11_undo twl_610 twl_611 twl_612 ⟨rfl, rfl⟩ ⟨Nat.le_of_ble_eq_true rfl, Nat.le_of_ble_eq_true rfl⟩ (fp_recv E hG (by decide) (fp_o11 _) rfl) rfl rfl (Nat.le_of_ble_eq_true rfl) hl.1 dL_law_467 ⟨Nat.le_of_ble_eq_true rfl, Nat.le_of_ble_eq_true rfl⟩ (fun H locs hG => ?_)
  refine lv_aload_n hx hb dL_law_470 rfl (lv_at hl 3 rfl) ?_
  refine fp_callVi (As := []) (rest := [.int r]) E hG (c_X12_undo l D G B h2) cv_X12_undo twl_1070 twl_1071 twl_1072 ⟨rfl, rfl⟩ ⟨Nat.le_of_ble_eq_true rfl, Nat.le_of_ble_eq_true rfl⟩ (fp_recv E hG (by decide) (fp_o12 _) rfl) rfl rfl (Nat.le_of_ble_eq_true rfl) hl.1 dL_law_471 ⟨Nat.le_of_ble_eq_true rfl, Nat.le_of_ble_eq_true rfl⟩ (fun H locs hG => ?_)
  refine lv_icmp_eq (tgt := 903) hx hb dL_law_474 (by decide) (fun _ => ?_) (fun z => absurd rfl z)
  exact back hI hG hl
set_option maxHeartbeats 4000000 in
theorem fl_chain {p : Program} {l : Launch} {e : Env} {s : State} {m : MethodId} {args : Array Value} {below : List Frame} {meth : Method} {c : Code} {D : va_G} {G : Nat → ClassId} {B b L : Nat} {xs : Nat → Int32} {Q : State → Prop} {M : fp_Mem} {H : Heap} {locs : List Loc} {ls : Array Slot} (E : fp_EV p s m args meth c code 4 RL ret D G) (hX : va_X b L xs s s.heap) (hbl : b < s.heap.size) (hbA : ¬ fp_A B b) (j : Nat) (hin : ∀ k, k < 4 → vp_in (nI (4 * j) + nI k) L)
    (back : ∀ {M : fp_Mem} {H : Heap} {locs : List Loc} {ls : Array Slot}, fp_Inv M → fp_H D G B s M H locs → lv_has ls 4 [(3, .int (nI (4 * j))), (0, .ref b), (1, .ref (B + 0)), (2, .ref (B + 120))] → W p l e room_1 s m args below meth c H locs 140 2279 Q (F0 m 903 ls []))
    (hI : fp_Inv M) (hG : fp_H D G B s M H locs) (hl : lv_has ls 4 [(3, .int (nI (4 * j))), (0, .ref b), (1, .ref (B + 0)), (2, .ref (B + 120))]) : W p l e room_1 s m args below meth c H locs 140 2279 Q (F0 m 479 ls []) := by
  have hx := E.1
  have hb := E.2.1
  obtain ⟨r, M1, M2, h1, h2, hI⟩ := st_chain hI (xs (Int32.toNatClampNeg (nI (4 * j) + nI 1))) (xs (Int32.toNatClampNeg (nI (4 * j) + nI 2)))
  refine lv_aload_n hx hb dL_law_479 rfl (lv_at hl 2 rfl) ?_
  refine lv_aload_n hx hb dL_law_480 rfl (lv_at hl 1 rfl) ?_
  refine lv_iload_n hx hb dL_law_481 rfl (lv_at hl 0 rfl) ?_
  refine lv_iconst (v := nI 1) hx hb dL_law_482 (by decide) ?_
  refine lv_iadd hx hb dL_law_483 ?_
  refine va_sld hx hb hX hbl hbA hG.2 (hin 1 (by decide)) dL_law_484 ?_
  refine lv_aload_n hx hb dL_law_485 rfl (lv_at hl 1 rfl) ?_
  refine lv_iload_n hx hb dL_law_486 rfl (lv_at hl 0 rfl) ?_
  refine lv_iconst (v := nI 2) hx hb dL_law_487 (by decide) ?_
  refine lv_iadd hx hb dL_law_488 ?_
  refine va_sld hx hb hX hbl hbA hG.2 (hin 2 (by decide)) dL_law_489 ?_
  refine fp_callVi (As := [.int (xs (Int32.toNatClampNeg (nI (4 * j) + nI 1))), .int (xs (Int32.toNatClampNeg (nI (4 * j) + nI 2)))]) (rest := []) E hG (c_X11_chain l D G B h1) cv_X11_chain twl_618 twl_619 twl_620 ⟨rfl, rfl⟩ ⟨Nat.le_of_ble_eq_true rfl, Nat.le_of_ble_eq_true rfl⟩ (fp_recv E hG (by decide) (fp_o11 _) rfl) rfl rfl (Nat.le_of_ble_eq_true rfl) hl.1 dL_law_490 ⟨Nat.le_of_ble_eq_true rfl, Nat.le_of_ble_eq_true rfl⟩ (fun H locs hG => ?_)
  refine lv_aload_n hx hb dL_law_493 rfl (lv_at hl 3 rfl) ?_
  refine lv_aload_n hx hb dL_law_494 rfl (lv_at hl 1 rfl) ?_
  refine lv_iload_n hx hb dL_law_495 rfl (lv_at hl 0 rfl) ?_
  refine lv_iconst (v := nI 1) hx hb dL_law_496 (by decide) ?_
  refine lv_iadd hx hb dL_law_497 ?_
  refine va_sld hx hb hX hbl hbA hG.2 (hin 1 (by decide)) dL_law_498 ?_
  refine lv_aload_n hx hb dL_law_499 rfl (lv_at hl 1 rfl) ?_
  refine lv_iload_n hx hb dL_law_500 rfl (lv_at hl 0 rfl) ?_
  refine lv_iconst (v := nI 2) hx hb dL_law_501 (by decide) ?_
  refine lv_iadd hx hb dL_law_502 ?_
  refine va_sld hx hb hX hbl hbA hG.2 (hin 2 (by decide)) dL_law_503 ?_
  refine fp_callVi (As := [.int (xs (Int32.toNatClampNeg (nI (4 * j) + nI 1))), .int (xs (Int32.toNatClampNeg (nI (4 * j) + nI 2)))]) (rest := [.int r]) E hG (c_X12_chain l D G B h2) cv_X12_chain twl_1074 twl_1075 twl_1076 ⟨rfl, rfl⟩ ⟨Nat.le_of_ble_eq_true rfl, Nat.le_of_ble_eq_true rfl⟩ (fp_recv E hG (by decide) (fp_o12 _) rfl) rfl rfl (Nat.le_of_ble_eq_true rfl) hl.1 dL_law_504 ⟨Nat.le_of_ble_eq_true rfl, Nat.le_of_ble_eq_true rfl⟩ (fun H locs hG => ?_)
  refine lv_icmp_eq (tgt := 903) hx hb dL_law_507 (by decide) (fun _ => ?_) (fun z => absurd rfl z)
  exact back hI hG hl
set_option maxHeartbeats 4000000 in
theorem fl_more {p : Program} {l : Launch} {e : Env} {s : State} {m : MethodId} {args : Array Value} {below : List Frame} {meth : Method} {c : Code} {D : va_G} {G : Nat → ClassId} {B b L : Nat} {xs : Nat → Int32} {Q : State → Prop} {M : fp_Mem} {H : Heap} {locs : List Loc} {ls : Array Slot} (E : fp_EV p s m args meth c code 4 RL ret D G) (hX : va_X b L xs s s.heap) (hbl : b < s.heap.size) (hbA : ¬ fp_A B b) (j : Nat) (hin : ∀ k, k < 4 → vp_in (nI (4 * j) + nI k) L)
    (back : ∀ {M : fp_Mem} {H : Heap} {locs : List Loc} {ls : Array Slot}, fp_Inv M → fp_H D G B s M H locs → lv_has ls 4 [(3, .int (nI (4 * j))), (0, .ref b), (1, .ref (B + 0)), (2, .ref (B + 120))] → W p l e room_1 s m args below meth c H locs 140 2279 Q (F0 m 903 ls []))
    (hI : fp_Inv M) (hG : fp_H D G B s M H locs) (hl : lv_has ls 4 [(3, .int (nI (4 * j))), (0, .ref b), (1, .ref (B + 0)), (2, .ref (B + 120))]) : W p l e room_1 s m args below meth c H locs 140 2279 Q (F0 m 512 ls []) := by
  have hx := E.1
  have hb := E.2.1
  obtain ⟨r, M1, h1, h2, hI⟩ := st_more hI (xs (Int32.toNatClampNeg (nI (4 * j) + nI 1)))
  refine lv_aload_n hx hb dL_law_512 rfl (lv_at hl 2 rfl) ?_
  refine lv_aload_n hx hb dL_law_513 rfl (lv_at hl 1 rfl) ?_
  refine lv_iload_n hx hb dL_law_514 rfl (lv_at hl 0 rfl) ?_
  refine lv_iconst (v := nI 1) hx hb dL_law_515 (by decide) ?_
  refine lv_iadd hx hb dL_law_516 ?_
  refine va_sld hx hb hX hbl hbA hG.2 (hin 1 (by decide)) dL_law_517 ?_
  refine fp_callVi (As := [.int (xs (Int32.toNatClampNeg (nI (4 * j) + nI 1)))]) (rest := []) E hG (c_X11_more l D G B h1) cv_X11_more twl_624 twl_625 twl_626 ⟨rfl, rfl⟩ ⟨Nat.le_of_ble_eq_true rfl, Nat.le_of_ble_eq_true rfl⟩ (fp_recv E hG (by decide) (fp_o11 _) rfl) rfl rfl (Nat.le_of_ble_eq_true rfl) hl.1 dL_law_518 ⟨Nat.le_of_ble_eq_true rfl, Nat.le_of_ble_eq_true rfl⟩ (fun H locs hG => ?_)
  refine lv_aload_n hx hb dL_law_521 rfl (lv_at hl 3 rfl) ?_
  refine lv_aload_n hx hb dL_law_522 rfl (lv_at hl 1 rfl) ?_
  refine lv_iload_n hx hb dL_law_523 rfl (lv_at hl 0 rfl) ?_
  refine lv_iconst (v := nI 1) hx hb dL_law_524 (by decide) ?_
  refine lv_iadd hx hb dL_law_525 ?_
  refine va_sld hx hb hX hbl hbA hG.2 (hin 1 (by decide)) dL_law_526 ?_
  refine fp_callVi (As := [.int (xs (Int32.toNatClampNeg (nI (4 * j) + nI 1)))]) (rest := [.int r]) E hG (c_X12_more l D G B h2) cv_X12_more twl_1078 twl_1079 twl_1080 ⟨rfl, rfl⟩ ⟨Nat.le_of_ble_eq_true rfl, Nat.le_of_ble_eq_true rfl⟩ (fp_recv E hG (by decide) (fp_o12 _) rfl) rfl rfl (Nat.le_of_ble_eq_true rfl) hl.1 dL_law_527 ⟨Nat.le_of_ble_eq_true rfl, Nat.le_of_ble_eq_true rfl⟩ (fun H locs hG => ?_)
  refine lv_icmp_eq (tgt := 903) hx hb dL_law_530 (by decide) (fun _ => ?_) (fun z => absurd rfl z)
  exact back hI hG hl
set_option maxHeartbeats 4000000 in
theorem fl_far {p : Program} {l : Launch} {e : Env} {s : State} {m : MethodId} {args : Array Value} {below : List Frame} {meth : Method} {c : Code} {D : va_G} {G : Nat → ClassId} {B b L : Nat} {xs : Nat → Int32} {Q : State → Prop} {M : fp_Mem} {H : Heap} {locs : List Loc} {ls : Array Slot} (E : fp_EV p s m args meth c code 4 RL ret D G) (hX : va_X b L xs s s.heap) (hbl : b < s.heap.size) (hbA : ¬ fp_A B b) (j : Nat) (hin : ∀ k, k < 4 → vp_in (nI (4 * j) + nI k) L)
    (back : ∀ {M : fp_Mem} {H : Heap} {locs : List Loc} {ls : Array Slot}, fp_Inv M → fp_H D G B s M H locs → lv_has ls 4 [(3, .int (nI (4 * j))), (0, .ref b), (1, .ref (B + 0)), (2, .ref (B + 120))] → W p l e room_1 s m args below meth c H locs 140 2279 Q (F0 m 903 ls []))
    (hI : fp_Inv M) (hG : fp_H D G B s M H locs) (hl : lv_has ls 4 [(3, .int (nI (4 * j))), (0, .ref b), (1, .ref (B + 0)), (2, .ref (B + 120))]) : W p l e room_1 s m args below meth c H locs 140 2279 Q (F0 m 535 ls []) := by
  have hx := E.1
  have hb := E.2.1
  obtain ⟨r, M1, M2, h1, h2, hI⟩ := st_far hI (xs (Int32.toNatClampNeg (nI (4 * j) + nI 1)))
  refine lv_aload_n hx hb dL_law_535 rfl (lv_at hl 2 rfl) ?_
  refine lv_aload_n hx hb dL_law_536 rfl (lv_at hl 1 rfl) ?_
  refine lv_iload_n hx hb dL_law_537 rfl (lv_at hl 0 rfl) ?_
  refine lv_iconst (v := nI 1) hx hb dL_law_538 (by decide) ?_
  refine lv_iadd hx hb dL_law_539 ?_
  refine va_sld hx hb hX hbl hbA hG.2 (hin 1 (by decide)) dL_law_540 ?_
  refine fp_callVi (As := [.int (xs (Int32.toNatClampNeg (nI (4 * j) + nI 1)))]) (rest := []) E hG (c_X11_far l D G B h1) cv_X11_far twl_645 twl_646 twl_647 ⟨rfl, rfl⟩ ⟨Nat.le_of_ble_eq_true rfl, Nat.le_of_ble_eq_true rfl⟩ (fp_recv E hG (by decide) (fp_o11 _) rfl) rfl rfl (Nat.le_of_ble_eq_true rfl) hl.1 dL_law_541 ⟨Nat.le_of_ble_eq_true rfl, Nat.le_of_ble_eq_true rfl⟩ (fun H locs hG => ?_)
  refine lv_aload_n hx hb dL_law_544 rfl (lv_at hl 3 rfl) ?_
  refine lv_aload_n hx hb dL_law_545 rfl (lv_at hl 1 rfl) ?_
  refine lv_iload_n hx hb dL_law_546 rfl (lv_at hl 0 rfl) ?_
  refine lv_iconst (v := nI 1) hx hb dL_law_547 (by decide) ?_
  refine lv_iadd hx hb dL_law_548 ?_
  refine va_sld hx hb hX hbl hbA hG.2 (hin 1 (by decide)) dL_law_549 ?_
  refine fp_callVi (As := [.int (xs (Int32.toNatClampNeg (nI (4 * j) + nI 1)))]) (rest := [.int r]) E hG (c_X12_far l D G B h2) cv_X12_far twl_1086 twl_1087 twl_1088 ⟨rfl, rfl⟩ ⟨Nat.le_of_ble_eq_true rfl, Nat.le_of_ble_eq_true rfl⟩ (fp_recv E hG (by decide) (fp_o12 _) rfl) rfl rfl (Nat.le_of_ble_eq_true rfl) hl.1 dL_law_550 ⟨Nat.le_of_ble_eq_true rfl, Nat.le_of_ble_eq_true rfl⟩ (fun H locs hG => ?_)
  refine lv_icmp_eq (tgt := 903) hx hb dL_law_553 (by decide) (fun _ => ?_) (fun z => absurd rfl z)
  exact back hI hG hl
set_option maxHeartbeats 4000000 in
theorem fl_two {p : Program} {l : Launch} {e : Env} {s : State} {m : MethodId} {args : Array Value} {below : List Frame} {meth : Method} {c : Code} {D : va_G} {G : Nat → ClassId} {B b L : Nat} {xs : Nat → Int32} {Q : State → Prop} {M : fp_Mem} {H : Heap} {locs : List Loc} {ls : Array Slot} (E : fp_EV p s m args meth c code 4 RL ret D G) (hX : va_X b L xs s s.heap) (hbl : b < s.heap.size) (hbA : ¬ fp_A B b) (j : Nat) (hin : ∀ k, k < 4 → vp_in (nI (4 * j) + nI k) L)
    (back : ∀ {M : fp_Mem} {H : Heap} {locs : List Loc} {ls : Array Slot}, fp_Inv M → fp_H D G B s M H locs → lv_has ls 4 [(3, .int (nI (4 * j))), (0, .ref b), (1, .ref (B + 0)), (2, .ref (B + 120))] → W p l e room_1 s m args below meth c H locs 140 2279 Q (F0 m 903 ls []))
    (hI : fp_Inv M) (hG : fp_H D G B s M H locs) (hl : lv_has ls 4 [(3, .int (nI (4 * j))), (0, .ref b), (1, .ref (B + 0)), (2, .ref (B + 120))]) : W p l e room_1 s m args below meth c H locs 140 2279 Q (F0 m 558 ls []) := by
  have hx := E.1
  have hb := E.2.1
  obtain ⟨r, M1, M2, h1, h2, hI⟩ := st_two hI (xs (Int32.toNatClampNeg (nI (4 * j) + nI 1))) (xs (Int32.toNatClampNeg (nI (4 * j) + nI 2))) (xs (Int32.toNatClampNeg (nI (4 * j) + nI 3)))
  refine lv_aload_n hx hb dL_law_558 rfl (lv_at hl 2 rfl) ?_
  refine lv_aload_n hx hb dL_law_559 rfl (lv_at hl 1 rfl) ?_
  refine lv_iload_n hx hb dL_law_560 rfl (lv_at hl 0 rfl) ?_
  refine lv_iconst (v := nI 1) hx hb dL_law_561 (by decide) ?_
  refine lv_iadd hx hb dL_law_562 ?_
  refine va_sld hx hb hX hbl hbA hG.2 (hin 1 (by decide)) dL_law_563 ?_
  refine lv_aload_n hx hb dL_law_564 rfl (lv_at hl 1 rfl) ?_
  refine lv_iload_n hx hb dL_law_565 rfl (lv_at hl 0 rfl) ?_
  refine lv_iconst (v := nI 2) hx hb dL_law_566 (by decide) ?_
  refine lv_iadd hx hb dL_law_567 ?_
  refine va_sld hx hb hX hbl hbA hG.2 (hin 2 (by decide)) dL_law_568 ?_
  refine lv_aload_n hx hb dL_law_569 rfl (lv_at hl 1 rfl) ?_
  refine lv_iload_n hx hb dL_law_570 rfl (lv_at hl 0 rfl) ?_
  refine lv_iconst (v := nI 3) hx hb dL_law_571 (by decide) ?_
  refine lv_iadd hx hb dL_law_572 ?_
  refine va_sld hx hb hX hbl hbA hG.2 (hin 3 (by decide)) dL_law_573 ?_
  refine fp_callVi (As := [.int (xs (Int32.toNatClampNeg (nI (4 * j) + nI 1))), .int (xs (Int32.toNatClampNeg (nI (4 * j) + nI 2))), .int (xs (Int32.toNatClampNeg (nI (4 * j) + nI 3)))]) (rest := []) E hG (c_X11_two l D G B h1) cv_X11_two twl_653 twl_654 twl_655 ⟨rfl, rfl⟩ ⟨Nat.le_of_ble_eq_true rfl, Nat.le_of_ble_eq_true rfl⟩ (fp_recv E hG (by decide) (fp_o11 _) rfl) rfl rfl (Nat.le_of_ble_eq_true rfl) hl.1 dL_law_574 ⟨Nat.le_of_ble_eq_true rfl, Nat.le_of_ble_eq_true rfl⟩ (fun H locs hG => ?_)
  refine lv_aload_n hx hb dL_law_577 rfl (lv_at hl 3 rfl) ?_
  refine lv_aload_n hx hb dL_law_578 rfl (lv_at hl 1 rfl) ?_
  refine lv_iload_n hx hb dL_law_579 rfl (lv_at hl 0 rfl) ?_
  refine lv_iconst (v := nI 1) hx hb dL_law_580 (by decide) ?_
  refine lv_iadd hx hb dL_law_581 ?_
  refine va_sld hx hb hX hbl hbA hG.2 (hin 1 (by decide)) dL_law_582 ?_
  refine lv_aload_n hx hb dL_law_583 rfl (lv_at hl 1 rfl) ?_
  refine lv_iload_n hx hb dL_law_584 rfl (lv_at hl 0 rfl) ?_
  refine lv_iconst (v := nI 2) hx hb dL_law_585 (by decide) ?_
  refine lv_iadd hx hb dL_law_586 ?_
  refine va_sld hx hb hX hbl hbA hG.2 (hin 2 (by decide)) dL_law_587 ?_
  refine lv_aload_n hx hb dL_law_588 rfl (lv_at hl 1 rfl) ?_
  refine lv_iload_n hx hb dL_law_589 rfl (lv_at hl 0 rfl) ?_
  refine lv_iconst (v := nI 3) hx hb dL_law_590 (by decide) ?_
  refine lv_iadd hx hb dL_law_591 ?_
  refine va_sld hx hb hX hbl hbA hG.2 (hin 3 (by decide)) dL_law_592 ?_
  refine fp_callVi (As := [.int (xs (Int32.toNatClampNeg (nI (4 * j) + nI 1))), .int (xs (Int32.toNatClampNeg (nI (4 * j) + nI 2))), .int (xs (Int32.toNatClampNeg (nI (4 * j) + nI 3)))]) (rest := [.int r]) E hG (c_X12_two l D G B h2) cv_X12_two twl_1090 twl_1091 twl_1092 ⟨rfl, rfl⟩ ⟨Nat.le_of_ble_eq_true rfl, Nat.le_of_ble_eq_true rfl⟩ (fp_recv E hG (by decide) (fp_o12 _) rfl) rfl rfl (Nat.le_of_ble_eq_true rfl) hl.1 dL_law_593 ⟨Nat.le_of_ble_eq_true rfl, Nat.le_of_ble_eq_true rfl⟩ (fun H locs hG => ?_)
  refine lv_icmp_eq (tgt := 903) hx hb dL_law_596 (by decide) (fun _ => ?_) (fun z => absurd rfl z)
  exact back hI hG hl
set_option maxHeartbeats 4000000 in
theorem fl_chairs {p : Program} {l : Launch} {e : Env} {s : State} {m : MethodId} {args : Array Value} {below : List Frame} {meth : Method} {c : Code} {D : va_G} {G : Nat → ClassId} {B b L : Nat} {xs : Nat → Int32} {Q : State → Prop} {M : fp_Mem} {H : Heap} {locs : List Loc} {ls : Array Slot} (E : fp_EV p s m args meth c code 4 RL ret D G) (hX : va_X b L xs s s.heap) (hbl : b < s.heap.size) (hbA : ¬ fp_A B b) (j : Nat) (hin : ∀ k, k < 4 → vp_in (nI (4 * j) + nI k) L)
    (back : ∀ {M : fp_Mem} {H : Heap} {locs : List Loc} {ls : Array Slot}, fp_Inv M → fp_H D G B s M H locs → lv_has ls 4 [(3, .int (nI (4 * j))), (0, .ref b), (1, .ref (B + 0)), (2, .ref (B + 120))] → W p l e room_1 s m args below meth c H locs 140 2279 Q (F0 m 903 ls []))
    (hI : fp_Inv M) (hG : fp_H D G B s M H locs) (hl : lv_has ls 4 [(3, .int (nI (4 * j))), (0, .ref b), (1, .ref (B + 0)), (2, .ref (B + 120))]) : W p l e room_1 s m args below meth c H locs 140 2279 Q (F0 m 601 ls []) := by
  have hx := E.1
  have hb := E.2.1
  obtain ⟨r, M1, M2, h1, h2, hI⟩ := st_chairs hI (xs (Int32.toNatClampNeg (nI (4 * j) + nI 1))) (xs (Int32.toNatClampNeg (nI (4 * j) + nI 2))) (xs (Int32.toNatClampNeg (nI (4 * j) + nI 3)))
  refine lv_aload_n hx hb dL_law_601 rfl (lv_at hl 2 rfl) ?_
  refine lv_aload_n hx hb dL_law_602 rfl (lv_at hl 1 rfl) ?_
  refine lv_iload_n hx hb dL_law_603 rfl (lv_at hl 0 rfl) ?_
  refine lv_iconst (v := nI 1) hx hb dL_law_604 (by decide) ?_
  refine lv_iadd hx hb dL_law_605 ?_
  refine va_sld hx hb hX hbl hbA hG.2 (hin 1 (by decide)) dL_law_606 ?_
  refine lv_aload_n hx hb dL_law_607 rfl (lv_at hl 1 rfl) ?_
  refine lv_iload_n hx hb dL_law_608 rfl (lv_at hl 0 rfl) ?_
  refine lv_iconst (v := nI 2) hx hb dL_law_609 (by decide) ?_
  refine lv_iadd hx hb dL_law_610 ?_
  refine va_sld hx hb hX hbl hbA hG.2 (hin 2 (by decide)) dL_law_611 ?_
  refine lv_aload_n hx hb dL_law_612 rfl (lv_at hl 1 rfl) ?_
  refine lv_iload_n hx hb dL_law_613 rfl (lv_at hl 0 rfl) ?_
  refine lv_iconst (v := nI 3) hx hb dL_law_614 (by decide) ?_
  refine lv_iadd hx hb dL_law_615 ?_
  refine va_sld hx hb hX hbl hbA hG.2 (hin 3 (by decide)) dL_law_616 ?_
  refine fp_callVi (As := [.int (xs (Int32.toNatClampNeg (nI (4 * j) + nI 1))), .int (xs (Int32.toNatClampNeg (nI (4 * j) + nI 2))), .int (xs (Int32.toNatClampNeg (nI (4 * j) + nI 3)))]) (rest := []) E hG (c_X11_chairs l D G B h1) cv_X11_chairs twl_668 twl_669 twl_670 ⟨rfl, rfl⟩ ⟨Nat.le_of_ble_eq_true rfl, Nat.le_of_ble_eq_true rfl⟩ (fp_recv E hG (by decide) (fp_o11 _) rfl) rfl rfl (Nat.le_of_ble_eq_true rfl) hl.1 dL_law_617 ⟨Nat.le_of_ble_eq_true rfl, Nat.le_of_ble_eq_true rfl⟩ (fun H locs hG => ?_)
  refine lv_aload_n hx hb dL_law_620 rfl (lv_at hl 3 rfl) ?_
  refine lv_aload_n hx hb dL_law_621 rfl (lv_at hl 1 rfl) ?_
  refine lv_iload_n hx hb dL_law_622 rfl (lv_at hl 0 rfl) ?_
  refine lv_iconst (v := nI 1) hx hb dL_law_623 (by decide) ?_
  refine lv_iadd hx hb dL_law_624 ?_
  refine va_sld hx hb hX hbl hbA hG.2 (hin 1 (by decide)) dL_law_625 ?_
  refine lv_aload_n hx hb dL_law_626 rfl (lv_at hl 1 rfl) ?_
  refine lv_iload_n hx hb dL_law_627 rfl (lv_at hl 0 rfl) ?_
  refine lv_iconst (v := nI 2) hx hb dL_law_628 (by decide) ?_
  refine lv_iadd hx hb dL_law_629 ?_
  refine va_sld hx hb hX hbl hbA hG.2 (hin 2 (by decide)) dL_law_630 ?_
  refine lv_aload_n hx hb dL_law_631 rfl (lv_at hl 1 rfl) ?_
  refine lv_iload_n hx hb dL_law_632 rfl (lv_at hl 0 rfl) ?_
  refine lv_iconst (v := nI 3) hx hb dL_law_633 (by decide) ?_
  refine lv_iadd hx hb dL_law_634 ?_
  refine va_sld hx hb hX hbl hbA hG.2 (hin 3 (by decide)) dL_law_635 ?_
  refine fp_callVi (As := [.int (xs (Int32.toNatClampNeg (nI (4 * j) + nI 1))), .int (xs (Int32.toNatClampNeg (nI (4 * j) + nI 2))), .int (xs (Int32.toNatClampNeg (nI (4 * j) + nI 3)))]) (rest := [.int r]) E hG (c_X12_chairs l D G B h2) cv_X12_chairs twl_1106 twl_1107 twl_1108 ⟨rfl, rfl⟩ ⟨Nat.le_of_ble_eq_true rfl, Nat.le_of_ble_eq_true rfl⟩ (fp_recv E hG (by decide) (fp_o12 _) rfl) rfl rfl (Nat.le_of_ble_eq_true rfl) hl.1 dL_law_636 ⟨Nat.le_of_ble_eq_true rfl, Nat.le_of_ble_eq_true rfl⟩ (fun H locs hG => ?_)
  refine lv_icmp_eq (tgt := 903) hx hb dL_law_639 (by decide) (fun _ => ?_) (fun z => absurd rfl z)
  exact back hI hG hl
set_option maxHeartbeats 4000000 in
theorem fl_spread {p : Program} {l : Launch} {e : Env} {s : State} {m : MethodId} {args : Array Value} {below : List Frame} {meth : Method} {c : Code} {D : va_G} {G : Nat → ClassId} {B b L : Nat} {xs : Nat → Int32} {Q : State → Prop} {M : fp_Mem} {H : Heap} {locs : List Loc} {ls : Array Slot} (E : fp_EV p s m args meth c code 4 RL ret D G) (hX : va_X b L xs s s.heap) (hbl : b < s.heap.size) (hbA : ¬ fp_A B b) (j : Nat) (hin : ∀ k, k < 4 → vp_in (nI (4 * j) + nI k) L)
    (back : ∀ {M : fp_Mem} {H : Heap} {locs : List Loc} {ls : Array Slot}, fp_Inv M → fp_H D G B s M H locs → lv_has ls 4 [(3, .int (nI (4 * j))), (0, .ref b), (1, .ref (B + 0)), (2, .ref (B + 120))] → W p l e room_1 s m args below meth c H locs 140 2279 Q (F0 m 903 ls []))
    (hI : fp_Inv M) (hG : fp_H D G B s M H locs) (hl : lv_has ls 4 [(3, .int (nI (4 * j))), (0, .ref b), (1, .ref (B + 0)), (2, .ref (B + 120))]) : W p l e room_1 s m args below meth c H locs 140 2279 Q (F0 m 644 ls []) := by
  have hx := E.1
  have hb := E.2.1
  obtain ⟨r, M1, h1, h2, hI⟩ := st_spread hI (xs (Int32.toNatClampNeg (nI (4 * j) + nI 1)))
  refine lv_aload_n hx hb dL_law_644 rfl (lv_at hl 2 rfl) ?_
  refine lv_aload_n hx hb dL_law_645 rfl (lv_at hl 1 rfl) ?_
  refine lv_iload_n hx hb dL_law_646 rfl (lv_at hl 0 rfl) ?_
  refine lv_iconst (v := nI 1) hx hb dL_law_647 (by decide) ?_
  refine lv_iadd hx hb dL_law_648 ?_
  refine va_sld hx hb hX hbl hbA hG.2 (hin 1 (by decide)) dL_law_649 ?_
  refine fp_callVi (As := [.int (xs (Int32.toNatClampNeg (nI (4 * j) + nI 1)))]) (rest := []) E hG (c_X11_spread l D G B h1) cv_X11_spread twl_703 twl_704 twl_705 ⟨rfl, rfl⟩ ⟨Nat.le_of_ble_eq_true rfl, Nat.le_of_ble_eq_true rfl⟩ (fp_recv E hG (by decide) (fp_o11 _) rfl) rfl rfl (Nat.le_of_ble_eq_true rfl) hl.1 dL_law_650 ⟨Nat.le_of_ble_eq_true rfl, Nat.le_of_ble_eq_true rfl⟩ (fun H locs hG => ?_)
  refine lv_aload_n hx hb dL_law_653 rfl (lv_at hl 3 rfl) ?_
  refine lv_aload_n hx hb dL_law_654 rfl (lv_at hl 1 rfl) ?_
  refine lv_iload_n hx hb dL_law_655 rfl (lv_at hl 0 rfl) ?_
  refine lv_iconst (v := nI 1) hx hb dL_law_656 (by decide) ?_
  refine lv_iadd hx hb dL_law_657 ?_
  refine va_sld hx hb hX hbl hbA hG.2 (hin 1 (by decide)) dL_law_658 ?_
  refine fp_callVi (As := [.int (xs (Int32.toNatClampNeg (nI (4 * j) + nI 1)))]) (rest := [.int r]) E hG (c_X12_spread l D G B h2) cv_X12_spread twl_1123 twl_1124 twl_1125 ⟨rfl, rfl⟩ ⟨Nat.le_of_ble_eq_true rfl, Nat.le_of_ble_eq_true rfl⟩ (fp_recv E hG (by decide) (fp_o12 _) rfl) rfl rfl (Nat.le_of_ble_eq_true rfl) hl.1 dL_law_659 ⟨Nat.le_of_ble_eq_true rfl, Nat.le_of_ble_eq_true rfl⟩ (fun H locs hG => ?_)
  refine lv_icmp_eq (tgt := 903) hx hb dL_law_662 (by decide) (fun _ => ?_) (fun z => absurd rfl z)
  exact back hI hG hl
set_option maxHeartbeats 4000000 in
theorem fl_quiet {p : Program} {l : Launch} {e : Env} {s : State} {m : MethodId} {args : Array Value} {below : List Frame} {meth : Method} {c : Code} {D : va_G} {G : Nat → ClassId} {B b L : Nat} {xs : Nat → Int32} {Q : State → Prop} {M : fp_Mem} {H : Heap} {locs : List Loc} {ls : Array Slot} (E : fp_EV p s m args meth c code 4 RL ret D G) (hX : va_X b L xs s s.heap) (hbl : b < s.heap.size) (hbA : ¬ fp_A B b) (j : Nat) (hin : ∀ k, k < 4 → vp_in (nI (4 * j) + nI k) L)
    (back : ∀ {M : fp_Mem} {H : Heap} {locs : List Loc} {ls : Array Slot}, fp_Inv M → fp_H D G B s M H locs → lv_has ls 4 [(3, .int (nI (4 * j))), (0, .ref b), (1, .ref (B + 0)), (2, .ref (B + 120))] → W p l e room_1 s m args below meth c H locs 140 2279 Q (F0 m 903 ls []))
    (hI : fp_Inv M) (hG : fp_H D G B s M H locs) (hl : lv_has ls 4 [(3, .int (nI (4 * j))), (0, .ref b), (1, .ref (B + 0)), (2, .ref (B + 120))]) : W p l e room_1 s m args below meth c H locs 140 2279 Q (F0 m 667 ls []) := by
  have hx := E.1
  have hb := E.2.1
  obtain ⟨r, h1, h2, hI⟩ := st_quiet hI (xs (Int32.toNatClampNeg (nI (4 * j) + nI 1))) (xs (Int32.toNatClampNeg (nI (4 * j) + nI 2)))
  refine lv_aload_n hx hb dL_law_667 rfl (lv_at hl 2 rfl) ?_
  refine lv_aload_n hx hb dL_law_668 rfl (lv_at hl 1 rfl) ?_
  refine lv_iload_n hx hb dL_law_669 rfl (lv_at hl 0 rfl) ?_
  refine lv_iconst (v := nI 1) hx hb dL_law_670 (by decide) ?_
  refine lv_iadd hx hb dL_law_671 ?_
  refine va_sld hx hb hX hbl hbA hG.2 (hin 1 (by decide)) dL_law_672 ?_
  refine lv_aload_n hx hb dL_law_673 rfl (lv_at hl 1 rfl) ?_
  refine lv_iload_n hx hb dL_law_674 rfl (lv_at hl 0 rfl) ?_
  refine lv_iconst (v := nI 2) hx hb dL_law_675 (by decide) ?_
  refine lv_iadd hx hb dL_law_676 ?_
  refine va_sld hx hb hX hbl hbA hG.2 (hin 2 (by decide)) dL_law_677 ?_
  refine fp_callVi (As := [.int (xs (Int32.toNatClampNeg (nI (4 * j) + nI 1))), .int (xs (Int32.toNatClampNeg (nI (4 * j) + nI 2)))]) (rest := []) E hG (c_X11_quiet l D G B h1) cv_X11_quiet twl_712 twl_713 twl_714 ⟨rfl, rfl⟩ ⟨Nat.le_of_ble_eq_true rfl, Nat.le_of_ble_eq_true rfl⟩ (fp_recv E hG (by decide) (fp_o11 _) rfl) rfl rfl (Nat.le_of_ble_eq_true rfl) hl.1 dL_law_678 ⟨Nat.le_of_ble_eq_true rfl, Nat.le_of_ble_eq_true rfl⟩ (fun H locs hG => ?_)
  refine lv_aload_n hx hb dL_law_681 rfl (lv_at hl 3 rfl) ?_
  refine lv_aload_n hx hb dL_law_682 rfl (lv_at hl 1 rfl) ?_
  refine lv_iload_n hx hb dL_law_683 rfl (lv_at hl 0 rfl) ?_
  refine lv_iconst (v := nI 1) hx hb dL_law_684 (by decide) ?_
  refine lv_iadd hx hb dL_law_685 ?_
  refine va_sld hx hb hX hbl hbA hG.2 (hin 1 (by decide)) dL_law_686 ?_
  refine lv_aload_n hx hb dL_law_687 rfl (lv_at hl 1 rfl) ?_
  refine lv_iload_n hx hb dL_law_688 rfl (lv_at hl 0 rfl) ?_
  refine lv_iconst (v := nI 2) hx hb dL_law_689 (by decide) ?_
  refine lv_iadd hx hb dL_law_690 ?_
  refine va_sld hx hb hX hbl hbA hG.2 (hin 2 (by decide)) dL_law_691 ?_
  refine fp_callVi (As := [.int (xs (Int32.toNatClampNeg (nI (4 * j) + nI 1))), .int (xs (Int32.toNatClampNeg (nI (4 * j) + nI 2)))]) (rest := [.int r]) E hG (c_X12_quiet l D G B h2) cv_X12_quiet twl_1131 twl_1132 twl_1133 ⟨rfl, rfl⟩ ⟨Nat.le_of_ble_eq_true rfl, Nat.le_of_ble_eq_true rfl⟩ (fp_recv E hG (by decide) (fp_o12 _) rfl) rfl rfl (Nat.le_of_ble_eq_true rfl) hl.1 dL_law_692 ⟨Nat.le_of_ble_eq_true rfl, Nat.le_of_ble_eq_true rfl⟩ (fun H locs hG => ?_)
  refine lv_icmp_eq (tgt := 903) hx hb dL_law_695 (by decide) (fun _ => ?_) (fun z => absurd rfl z)
  exact back hI hG hl
set_option maxHeartbeats 4000000 in
theorem fl_see {p : Program} {l : Launch} {e : Env} {s : State} {m : MethodId} {args : Array Value} {below : List Frame} {meth : Method} {c : Code} {D : va_G} {G : Nat → ClassId} {B b L : Nat} {xs : Nat → Int32} {Q : State → Prop} {M : fp_Mem} {H : Heap} {locs : List Loc} {ls : Array Slot} (E : fp_EV p s m args meth c code 4 RL ret D G) (hX : va_X b L xs s s.heap) (hbl : b < s.heap.size) (hbA : ¬ fp_A B b) (j : Nat) (hin : ∀ k, k < 4 → vp_in (nI (4 * j) + nI k) L)
    (back : ∀ {M : fp_Mem} {H : Heap} {locs : List Loc} {ls : Array Slot}, fp_Inv M → fp_H D G B s M H locs → lv_has ls 4 [(3, .int (nI (4 * j))), (0, .ref b), (1, .ref (B + 0)), (2, .ref (B + 120))] → W p l e room_1 s m args below meth c H locs 140 2279 Q (F0 m 903 ls []))
    (hI : fp_Inv M) (hG : fp_H D G B s M H locs) (hl : lv_has ls 4 [(3, .int (nI (4 * j))), (0, .ref b), (1, .ref (B + 0)), (2, .ref (B + 120))]) : W p l e room_1 s m args below meth c H locs 140 2279 Q (F0 m 700 ls []) := by
  have hx := E.1
  have hb := E.2.1
  by_cases qz : (xs (Int32.toNatClampNeg (nI (4 * j) + nI 2))) = 0
  · obtain ⟨r, M1, M2, h1, h2, hI⟩ := st_see hI (xs (Int32.toNatClampNeg (nI (4 * j) + nI 1))) (nI 0) (by decide)
    refine lv_aload_n hx hb dL_law_700 rfl (lv_at hl 2 rfl) ?_
    refine lv_aload_n hx hb dL_law_701 rfl (lv_at hl 1 rfl) ?_
    refine lv_iload_n hx hb dL_law_702 rfl (lv_at hl 0 rfl) ?_
    refine lv_iconst (v := nI 1) hx hb dL_law_703 (by decide) ?_
    refine lv_iadd hx hb dL_law_704 ?_
    refine va_sld hx hb hX hbl hbA hG.2 (hin 1 (by decide)) dL_law_705 ?_
    refine lv_aload_n hx hb dL_law_706 rfl (lv_at hl 1 rfl) ?_
    refine lv_iload_n hx hb dL_law_707 rfl (lv_at hl 0 rfl) ?_
    refine lv_iconst (v := nI 2) hx hb dL_law_708 (by decide) ?_
    refine lv_iadd hx hb dL_law_709 ?_
    refine va_sld hx hb hX hbl hbA hG.2 (hin 2 (by decide)) dL_law_710 ?_
    refine lv_if_eq (tgt := 718) hx hb dL_law_711 (by decide) (fun _ => ?_) (fun z => absurd qz z)
    refine lv_iconst (v := nI 0) hx hb dL_law_718 (by decide) ?_
    refine fp_callVi (As := [.int (xs (Int32.toNatClampNeg (nI (4 * j) + nI 1))), .int (nI 0)]) (rest := []) E hG (c_X11_see l D G B h1) cv_X11_see twl_718 twl_719 twl_720 ⟨rfl, rfl⟩ ⟨Nat.le_of_ble_eq_true rfl, Nat.le_of_ble_eq_true rfl⟩ (fp_recv E hG (by decide) (fp_o11 _) rfl) rfl rfl (Nat.le_of_ble_eq_true rfl) hl.1 dL_law_719 ⟨Nat.le_of_ble_eq_true rfl, Nat.le_of_ble_eq_true rfl⟩ (fun H locs hG => ?_)
    refine lv_aload_n hx hb dL_law_722 rfl (lv_at hl 3 rfl) ?_
    refine lv_aload_n hx hb dL_law_723 rfl (lv_at hl 1 rfl) ?_
    refine lv_iload_n hx hb dL_law_724 rfl (lv_at hl 0 rfl) ?_
    refine lv_iconst (v := nI 1) hx hb dL_law_725 (by decide) ?_
    refine lv_iadd hx hb dL_law_726 ?_
    refine va_sld hx hb hX hbl hbA hG.2 (hin 1 (by decide)) dL_law_727 ?_
    refine lv_aload_n hx hb dL_law_728 rfl (lv_at hl 1 rfl) ?_
    refine lv_iload_n hx hb dL_law_729 rfl (lv_at hl 0 rfl) ?_
    refine lv_iconst (v := nI 2) hx hb dL_law_730 (by decide) ?_
    refine lv_iadd hx hb dL_law_731 ?_
    refine va_sld hx hb hX hbl hbA hG.2 (hin 2 (by decide)) dL_law_732 ?_
    refine lv_if_eq (tgt := 740) hx hb dL_law_733 (by decide) (fun _ => ?_) (fun z => absurd qz z)
    refine lv_iconst (v := nI 0) hx hb dL_law_740 (by decide) ?_
    refine fp_callVi (As := [.int (xs (Int32.toNatClampNeg (nI (4 * j) + nI 1))), .int (nI 0)]) (rest := [.int r]) E hG (c_X12_see l D G B h2) cv_X12_see twl_1137 twl_1138 twl_1139 ⟨rfl, rfl⟩ ⟨Nat.le_of_ble_eq_true rfl, Nat.le_of_ble_eq_true rfl⟩ (fp_recv E hG (by decide) (fp_o12 _) rfl) rfl rfl (Nat.le_of_ble_eq_true rfl) hl.1 dL_law_741 ⟨Nat.le_of_ble_eq_true rfl, Nat.le_of_ble_eq_true rfl⟩ (fun H locs hG => ?_)
    refine lv_icmp_eq (tgt := 903) hx hb dL_law_744 (by decide) (fun _ => ?_) (fun z => absurd rfl z)
    exact back hI hG hl
  · obtain ⟨r, M1, M2, h1, h2, hI⟩ := st_see hI (xs (Int32.toNatClampNeg (nI (4 * j) + nI 1))) (nI 1) (by decide)
    refine lv_aload_n hx hb dL_law_700 rfl (lv_at hl 2 rfl) ?_
    refine lv_aload_n hx hb dL_law_701 rfl (lv_at hl 1 rfl) ?_
    refine lv_iload_n hx hb dL_law_702 rfl (lv_at hl 0 rfl) ?_
    refine lv_iconst (v := nI 1) hx hb dL_law_703 (by decide) ?_
    refine lv_iadd hx hb dL_law_704 ?_
    refine va_sld hx hb hX hbl hbA hG.2 (hin 1 (by decide)) dL_law_705 ?_
    refine lv_aload_n hx hb dL_law_706 rfl (lv_at hl 1 rfl) ?_
    refine lv_iload_n hx hb dL_law_707 rfl (lv_at hl 0 rfl) ?_
    refine lv_iconst (v := nI 2) hx hb dL_law_708 (by decide) ?_
    refine lv_iadd hx hb dL_law_709 ?_
    refine va_sld hx hb hX hbl hbA hG.2 (hin 2 (by decide)) dL_law_710 ?_
    refine lv_if_eq (tgt := 718) hx hb dL_law_711 (by decide) (fun z => absurd z qz) (fun _ => ?_)
    refine lv_iconst (v := nI 1) hx hb dL_law_714 (by decide) ?_
    refine lv_goto (tgt := 719) hx hb dL_law_715 (by decide) ?_
    refine fp_callVi (As := [.int (xs (Int32.toNatClampNeg (nI (4 * j) + nI 1))), .int (nI 1)]) (rest := []) E hG (c_X11_see l D G B h1) cv_X11_see twl_718 twl_719 twl_720 ⟨rfl, rfl⟩ ⟨Nat.le_of_ble_eq_true rfl, Nat.le_of_ble_eq_true rfl⟩ (fp_recv E hG (by decide) (fp_o11 _) rfl) rfl rfl (Nat.le_of_ble_eq_true rfl) hl.1 dL_law_719 ⟨Nat.le_of_ble_eq_true rfl, Nat.le_of_ble_eq_true rfl⟩ (fun H locs hG => ?_)
    refine lv_aload_n hx hb dL_law_722 rfl (lv_at hl 3 rfl) ?_
    refine lv_aload_n hx hb dL_law_723 rfl (lv_at hl 1 rfl) ?_
    refine lv_iload_n hx hb dL_law_724 rfl (lv_at hl 0 rfl) ?_
    refine lv_iconst (v := nI 1) hx hb dL_law_725 (by decide) ?_
    refine lv_iadd hx hb dL_law_726 ?_
    refine va_sld hx hb hX hbl hbA hG.2 (hin 1 (by decide)) dL_law_727 ?_
    refine lv_aload_n hx hb dL_law_728 rfl (lv_at hl 1 rfl) ?_
    refine lv_iload_n hx hb dL_law_729 rfl (lv_at hl 0 rfl) ?_
    refine lv_iconst (v := nI 2) hx hb dL_law_730 (by decide) ?_
    refine lv_iadd hx hb dL_law_731 ?_
    refine va_sld hx hb hX hbl hbA hG.2 (hin 2 (by decide)) dL_law_732 ?_
    refine lv_if_eq (tgt := 740) hx hb dL_law_733 (by decide) (fun z => absurd z qz) (fun _ => ?_)
    refine lv_iconst (v := nI 1) hx hb dL_law_736 (by decide) ?_
    refine lv_goto (tgt := 741) hx hb dL_law_737 (by decide) ?_
    refine fp_callVi (As := [.int (xs (Int32.toNatClampNeg (nI (4 * j) + nI 1))), .int (nI 1)]) (rest := [.int r]) E hG (c_X12_see l D G B h2) cv_X12_see twl_1137 twl_1138 twl_1139 ⟨rfl, rfl⟩ ⟨Nat.le_of_ble_eq_true rfl, Nat.le_of_ble_eq_true rfl⟩ (fp_recv E hG (by decide) (fp_o12 _) rfl) rfl rfl (Nat.le_of_ble_eq_true rfl) hl.1 dL_law_741 ⟨Nat.le_of_ble_eq_true rfl, Nat.le_of_ble_eq_true rfl⟩ (fun H locs hG => ?_)
    refine lv_icmp_eq (tgt := 903) hx hb dL_law_744 (by decide) (fun _ => ?_) (fun z => absurd rfl z)
    exact back hI hG hl
set_option maxHeartbeats 4000000 in
theorem fl_came {p : Program} {l : Launch} {e : Env} {s : State} {m : MethodId} {args : Array Value} {below : List Frame} {meth : Method} {c : Code} {D : va_G} {G : Nat → ClassId} {B b L : Nat} {xs : Nat → Int32} {Q : State → Prop} {M : fp_Mem} {H : Heap} {locs : List Loc} {ls : Array Slot} (E : fp_EV p s m args meth c code 4 RL ret D G) (hX : va_X b L xs s s.heap) (hbl : b < s.heap.size) (hbA : ¬ fp_A B b) (j : Nat) (hin : ∀ k, k < 4 → vp_in (nI (4 * j) + nI k) L)
    (back : ∀ {M : fp_Mem} {H : Heap} {locs : List Loc} {ls : Array Slot}, fp_Inv M → fp_H D G B s M H locs → lv_has ls 4 [(3, .int (nI (4 * j))), (0, .ref b), (1, .ref (B + 0)), (2, .ref (B + 120))] → W p l e room_1 s m args below meth c H locs 140 2279 Q (F0 m 903 ls []))
    (hI : fp_Inv M) (hG : fp_H D G B s M H locs) (hl : lv_has ls 4 [(3, .int (nI (4 * j))), (0, .ref b), (1, .ref (B + 0)), (2, .ref (B + 120))]) : W p l e room_1 s m args below meth c H locs 140 2279 Q (F0 m 749 ls []) := by
  have hx := E.1
  have hb := E.2.1
  obtain ⟨r, M1, M2, h1, h2, hI⟩ := st_came hI 
  refine lv_aload_n hx hb dL_law_749 rfl (lv_at hl 2 rfl) ?_
  refine fp_callVi (As := []) (rest := []) E hG (c_X11_came l D G B h1) cv_X11_came twl_726 twl_727 twl_728 ⟨rfl, rfl⟩ ⟨Nat.le_of_ble_eq_true rfl, Nat.le_of_ble_eq_true rfl⟩ (fp_recv E hG (by decide) (fp_o11 _) rfl) rfl rfl (Nat.le_of_ble_eq_true rfl) hl.1 dL_law_750 ⟨Nat.le_of_ble_eq_true rfl, Nat.le_of_ble_eq_true rfl⟩ (fun H locs hG => ?_)
  refine lv_aload_n hx hb dL_law_753 rfl (lv_at hl 3 rfl) ?_
  refine fp_callVi (As := []) (rest := [.int r]) E hG (c_X12_came l D G B h2) cv_X12_came twl_1141 twl_1142 twl_1143 ⟨rfl, rfl⟩ ⟨Nat.le_of_ble_eq_true rfl, Nat.le_of_ble_eq_true rfl⟩ (fp_recv E hG (by decide) (fp_o12 _) rfl) rfl rfl (Nat.le_of_ble_eq_true rfl) hl.1 dL_law_754 ⟨Nat.le_of_ble_eq_true rfl, Nat.le_of_ble_eq_true rfl⟩ (fun H locs hG => ?_)
  refine lv_icmp_eq (tgt := 903) hx hb dL_law_757 (by decide) (fun _ => ?_) (fun z => absurd rfl z)
  exact back hI hG hl
set_option maxHeartbeats 4000000 in
theorem fl_look {p : Program} {l : Launch} {e : Env} {s : State} {m : MethodId} {args : Array Value} {below : List Frame} {meth : Method} {c : Code} {D : va_G} {G : Nat → ClassId} {B b L : Nat} {xs : Nat → Int32} {Q : State → Prop} {M : fp_Mem} {H : Heap} {locs : List Loc} {ls : Array Slot} (E : fp_EV p s m args meth c code 4 RL ret D G) (hX : va_X b L xs s s.heap) (hbl : b < s.heap.size) (hbA : ¬ fp_A B b) (j : Nat) (hin : ∀ k, k < 4 → vp_in (nI (4 * j) + nI k) L)
    (back : ∀ {M : fp_Mem} {H : Heap} {locs : List Loc} {ls : Array Slot}, fp_Inv M → fp_H D G B s M H locs → lv_has ls 4 [(3, .int (nI (4 * j))), (0, .ref b), (1, .ref (B + 0)), (2, .ref (B + 120))] → W p l e room_1 s m args below meth c H locs 140 2279 Q (F0 m 903 ls []))
    (hI : fp_Inv M) (hG : fp_H D G B s M H locs) (hl : lv_has ls 4 [(3, .int (nI (4 * j))), (0, .ref b), (1, .ref (B + 0)), (2, .ref (B + 120))]) : W p l e room_1 s m args below meth c H locs 140 2279 Q (F0 m 762 ls []) := by
  have hx := E.1
  have hb := E.2.1
  obtain ⟨r, M1, M2, h1, h2, hI⟩ := st_look hI 
  refine lv_aload_n hx hb dL_law_762 rfl (lv_at hl 2 rfl) ?_
  refine fp_callVi (As := []) (rest := []) E hG (c_X11_look l D G B h1) cv_X11_look twl_739 twl_740 twl_741 ⟨rfl, rfl⟩ ⟨Nat.le_of_ble_eq_true rfl, Nat.le_of_ble_eq_true rfl⟩ (fp_recv E hG (by decide) (fp_o11 _) rfl) rfl rfl (Nat.le_of_ble_eq_true rfl) hl.1 dL_law_763 ⟨Nat.le_of_ble_eq_true rfl, Nat.le_of_ble_eq_true rfl⟩ (fun H locs hG => ?_)
  refine lv_aload_n hx hb dL_law_766 rfl (lv_at hl 3 rfl) ?_
  refine fp_callVi (As := []) (rest := [.int r]) E hG (c_X12_look l D G B h2) cv_X12_look twl_1153 twl_1154 twl_1155 ⟨rfl, rfl⟩ ⟨Nat.le_of_ble_eq_true rfl, Nat.le_of_ble_eq_true rfl⟩ (fp_recv E hG (by decide) (fp_o12 _) rfl) rfl rfl (Nat.le_of_ble_eq_true rfl) hl.1 dL_law_767 ⟨Nat.le_of_ble_eq_true rfl, Nat.le_of_ble_eq_true rfl⟩ (fun H locs hG => ?_)
  refine lv_icmp_eq (tgt := 903) hx hb dL_law_770 (by decide) (fun _ => ?_) (fun z => absurd rfl z)
  exact back hI hG hl
set_option maxHeartbeats 4000000 in
theorem fl_write {p : Program} {l : Launch} {e : Env} {s : State} {m : MethodId} {args : Array Value} {below : List Frame} {meth : Method} {c : Code} {D : va_G} {G : Nat → ClassId} {B b L : Nat} {xs : Nat → Int32} {Q : State → Prop} {M : fp_Mem} {H : Heap} {locs : List Loc} {ls : Array Slot} (E : fp_EV p s m args meth c code 4 RL ret D G) (hX : va_X b L xs s s.heap) (hbl : b < s.heap.size) (hbA : ¬ fp_A B b) (j : Nat) (hin : ∀ k, k < 4 → vp_in (nI (4 * j) + nI k) L)
    (back : ∀ {M : fp_Mem} {H : Heap} {locs : List Loc} {ls : Array Slot}, fp_Inv M → fp_H D G B s M H locs → lv_has ls 4 [(3, .int (nI (4 * j))), (0, .ref b), (1, .ref (B + 0)), (2, .ref (B + 120))] → W p l e room_1 s m args below meth c H locs 140 2279 Q (F0 m 903 ls []))
    (hI : fp_Inv M) (hG : fp_H D G B s M H locs) (hl : lv_has ls 4 [(3, .int (nI (4 * j))), (0, .ref b), (1, .ref (B + 0)), (2, .ref (B + 120))]) : W p l e room_1 s m args below meth c H locs 140 2279 Q (F0 m 775 ls []) := by
  have hx := E.1
  have hb := E.2.1
  obtain ⟨r, M1, M2, h1, h2, hI⟩ := st_write hI (xs (Int32.toNatClampNeg (nI (4 * j) + nI 1))) (xs (Int32.toNatClampNeg (nI (4 * j) + nI 2)))
  refine lv_aload_n hx hb dL_law_775 rfl (lv_at hl 2 rfl) ?_
  refine lv_aload_n hx hb dL_law_776 rfl (lv_at hl 1 rfl) ?_
  refine lv_iload_n hx hb dL_law_777 rfl (lv_at hl 0 rfl) ?_
  refine lv_iconst (v := nI 1) hx hb dL_law_778 (by decide) ?_
  refine lv_iadd hx hb dL_law_779 ?_
  refine va_sld hx hb hX hbl hbA hG.2 (hin 1 (by decide)) dL_law_780 ?_
  refine lv_aload_n hx hb dL_law_781 rfl (lv_at hl 1 rfl) ?_
  refine lv_iload_n hx hb dL_law_782 rfl (lv_at hl 0 rfl) ?_
  refine lv_iconst (v := nI 2) hx hb dL_law_783 (by decide) ?_
  refine lv_iadd hx hb dL_law_784 ?_
  refine va_sld hx hb hX hbl hbA hG.2 (hin 2 (by decide)) dL_law_785 ?_
  refine fp_callVi (As := [.int (xs (Int32.toNatClampNeg (nI (4 * j) + nI 1))), .int (xs (Int32.toNatClampNeg (nI (4 * j) + nI 2)))]) (rest := []) E hG (c_X11_write l D G B h1) cv_X11_write twl_753 twl_754 twl_755 ⟨rfl, rfl⟩ ⟨Nat.le_of_ble_eq_true rfl, Nat.le_of_ble_eq_true rfl⟩ (fp_recv E hG (by decide) (fp_o11 _) rfl) rfl rfl (Nat.le_of_ble_eq_true rfl) hl.1 dL_law_786 ⟨Nat.le_of_ble_eq_true rfl, Nat.le_of_ble_eq_true rfl⟩ (fun H locs hG => ?_)
  refine lv_aload_n hx hb dL_law_789 rfl (lv_at hl 3 rfl) ?_
  refine lv_aload_n hx hb dL_law_790 rfl (lv_at hl 1 rfl) ?_
  refine lv_iload_n hx hb dL_law_791 rfl (lv_at hl 0 rfl) ?_
  refine lv_iconst (v := nI 1) hx hb dL_law_792 (by decide) ?_
  refine lv_iadd hx hb dL_law_793 ?_
  refine va_sld hx hb hX hbl hbA hG.2 (hin 1 (by decide)) dL_law_794 ?_
  refine lv_aload_n hx hb dL_law_795 rfl (lv_at hl 1 rfl) ?_
  refine lv_iload_n hx hb dL_law_796 rfl (lv_at hl 0 rfl) ?_
  refine lv_iconst (v := nI 2) hx hb dL_law_797 (by decide) ?_
  refine lv_iadd hx hb dL_law_798 ?_
  refine va_sld hx hb hX hbl hbA hG.2 (hin 2 (by decide)) dL_law_799 ?_
  refine fp_callVi (As := [.int (xs (Int32.toNatClampNeg (nI (4 * j) + nI 1))), .int (xs (Int32.toNatClampNeg (nI (4 * j) + nI 2)))]) (rest := [.int r]) E hG (c_X12_write l D G B h2) cv_X12_write twl_1160 twl_1161 twl_1162 ⟨rfl, rfl⟩ ⟨Nat.le_of_ble_eq_true rfl, Nat.le_of_ble_eq_true rfl⟩ (fp_recv E hG (by decide) (fp_o12 _) rfl) rfl rfl (Nat.le_of_ble_eq_true rfl) hl.1 dL_law_800 ⟨Nat.le_of_ble_eq_true rfl, Nat.le_of_ble_eq_true rfl⟩ (fun H locs hG => ?_)
  refine lv_icmp_eq (tgt := 903) hx hb dL_law_803 (by decide) (fun _ => ?_) (fun z => absurd rfl z)
  exact back hI hG hl
set_option maxHeartbeats 4000000 in
theorem fl_tear {p : Program} {l : Launch} {e : Env} {s : State} {m : MethodId} {args : Array Value} {below : List Frame} {meth : Method} {c : Code} {D : va_G} {G : Nat → ClassId} {B b L : Nat} {xs : Nat → Int32} {Q : State → Prop} {M : fp_Mem} {H : Heap} {locs : List Loc} {ls : Array Slot} (E : fp_EV p s m args meth c code 4 RL ret D G) (hX : va_X b L xs s s.heap) (hbl : b < s.heap.size) (hbA : ¬ fp_A B b) (j : Nat) (hin : ∀ k, k < 4 → vp_in (nI (4 * j) + nI k) L)
    (back : ∀ {M : fp_Mem} {H : Heap} {locs : List Loc} {ls : Array Slot}, fp_Inv M → fp_H D G B s M H locs → lv_has ls 4 [(3, .int (nI (4 * j))), (0, .ref b), (1, .ref (B + 0)), (2, .ref (B + 120))] → W p l e room_1 s m args below meth c H locs 140 2279 Q (F0 m 903 ls []))
    (hI : fp_Inv M) (hG : fp_H D G B s M H locs) (hl : lv_has ls 4 [(3, .int (nI (4 * j))), (0, .ref b), (1, .ref (B + 0)), (2, .ref (B + 120))]) : W p l e room_1 s m args below meth c H locs 140 2279 Q (F0 m 808 ls []) := by
  have hx := E.1
  have hb := E.2.1
  obtain ⟨r, M1, M2, h1, h2, hI⟩ := st_tear hI 
  refine lv_aload_n hx hb dL_law_808 rfl (lv_at hl 2 rfl) ?_
  refine fp_callVi (As := []) (rest := []) E hG (c_X11_tear l D G B h1) cv_X11_tear twl_761 twl_762 twl_763 ⟨rfl, rfl⟩ ⟨Nat.le_of_ble_eq_true rfl, Nat.le_of_ble_eq_true rfl⟩ (fp_recv E hG (by decide) (fp_o11 _) rfl) rfl rfl (Nat.le_of_ble_eq_true rfl) hl.1 dL_law_809 ⟨Nat.le_of_ble_eq_true rfl, Nat.le_of_ble_eq_true rfl⟩ (fun H locs hG => ?_)
  refine lv_aload_n hx hb dL_law_812 rfl (lv_at hl 3 rfl) ?_
  refine fp_callVi (As := []) (rest := [.int r]) E hG (c_X12_tear l D G B h2) cv_X12_tear twl_1165 twl_1166 twl_1167 ⟨rfl, rfl⟩ ⟨Nat.le_of_ble_eq_true rfl, Nat.le_of_ble_eq_true rfl⟩ (fp_recv E hG (by decide) (fp_o12 _) rfl) rfl rfl (Nat.le_of_ble_eq_true rfl) hl.1 dL_law_813 ⟨Nat.le_of_ble_eq_true rfl, Nat.le_of_ble_eq_true rfl⟩ (fun H locs hG => ?_)
  refine lv_icmp_eq (tgt := 903) hx hb dL_law_816 (by decide) (fun _ => ?_) (fun z => absurd rfl z)
  exact back hI hG hl
set_option maxHeartbeats 4000000 in
theorem fl_judge {p : Program} {l : Launch} {e : Env} {s : State} {m : MethodId} {args : Array Value} {below : List Frame} {meth : Method} {c : Code} {D : va_G} {G : Nat → ClassId} {B b L : Nat} {xs : Nat → Int32} {Q : State → Prop} {M : fp_Mem} {H : Heap} {locs : List Loc} {ls : Array Slot} (E : fp_EV p s m args meth c code 4 RL ret D G) (hX : va_X b L xs s s.heap) (hbl : b < s.heap.size) (hbA : ¬ fp_A B b) (j : Nat) (hin : ∀ k, k < 4 → vp_in (nI (4 * j) + nI k) L)
    (back : ∀ {M : fp_Mem} {H : Heap} {locs : List Loc} {ls : Array Slot}, fp_Inv M → fp_H D G B s M H locs → lv_has ls 4 [(3, .int (nI (4 * j))), (0, .ref b), (1, .ref (B + 0)), (2, .ref (B + 120))] → W p l e room_1 s m args below meth c H locs 140 2279 Q (F0 m 903 ls []))
    (hI : fp_Inv M) (hG : fp_H D G B s M H locs) (hl : lv_has ls 4 [(3, .int (nI (4 * j))), (0, .ref b), (1, .ref (B + 0)), (2, .ref (B + 120))]) : W p l e room_1 s m args below meth c H locs 140 2279 Q (F0 m 821 ls []) := by
  have hx := E.1
  have hb := E.2.1
  obtain ⟨r, h1, h2, hI⟩ := st_judge hI 
  refine lv_aload_n hx hb dL_law_821 rfl (lv_at hl 2 rfl) ?_
  refine fp_callVi (As := []) (rest := []) E hG (c_X11_judge l D G B h1) cv_X11_judge twl_765 twl_766 twl_767 ⟨rfl, rfl⟩ ⟨Nat.le_of_ble_eq_true rfl, Nat.le_of_ble_eq_true rfl⟩ (fp_recv E hG (by decide) (fp_o11 _) rfl) rfl rfl (Nat.le_of_ble_eq_true rfl) hl.1 dL_law_822 ⟨Nat.le_of_ble_eq_true rfl, Nat.le_of_ble_eq_true rfl⟩ (fun H locs hG => ?_)
  refine lv_aload_n hx hb dL_law_825 rfl (lv_at hl 3 rfl) ?_
  refine fp_callVi (As := []) (rest := [.int r]) E hG (c_X12_judge l D G B h2) cv_X12_judge twl_1169 twl_1170 twl_1171 ⟨rfl, rfl⟩ ⟨Nat.le_of_ble_eq_true rfl, Nat.le_of_ble_eq_true rfl⟩ (fp_recv E hG (by decide) (fp_o12 _) rfl) rfl rfl (Nat.le_of_ble_eq_true rfl) hl.1 dL_law_826 ⟨Nat.le_of_ble_eq_true rfl, Nat.le_of_ble_eq_true rfl⟩ (fun H locs hG => ?_)
  refine lv_icmp_eq (tgt := 903) hx hb dL_law_829 (by decide) (fun _ => ?_) (fun z => absurd rfl z)
  exact back hI hG hl
set_option maxHeartbeats 4000000 in
theorem fl_seed {p : Program} {l : Launch} {e : Env} {s : State} {m : MethodId} {args : Array Value} {below : List Frame} {meth : Method} {c : Code} {D : va_G} {G : Nat → ClassId} {B b L : Nat} {xs : Nat → Int32} {Q : State → Prop} {M : fp_Mem} {H : Heap} {locs : List Loc} {ls : Array Slot} (E : fp_EV p s m args meth c code 4 RL ret D G) (hX : va_X b L xs s s.heap) (hbl : b < s.heap.size) (hbA : ¬ fp_A B b) (j : Nat) (hin : ∀ k, k < 4 → vp_in (nI (4 * j) + nI k) L)
    (back : ∀ {M : fp_Mem} {H : Heap} {locs : List Loc} {ls : Array Slot}, fp_Inv M → fp_H D G B s M H locs → lv_has ls 4 [(3, .int (nI (4 * j))), (0, .ref b), (1, .ref (B + 0)), (2, .ref (B + 120))] → W p l e room_1 s m args below meth c H locs 140 2279 Q (F0 m 903 ls []))
    (hI : fp_Inv M) (hG : fp_H D G B s M H locs) (hl : lv_has ls 4 [(3, .int (nI (4 * j))), (0, .ref b), (1, .ref (B + 0)), (2, .ref (B + 120))]) : W p l e room_1 s m args below meth c H locs 140 2279 Q (F0 m 834 ls []) := by
  have hx := E.1
  have hb := E.2.1
  obtain ⟨r, M1, M2, h1, h2, hI⟩ := st_seed hI (xs (Int32.toNatClampNeg (nI (4 * j) + nI 1)))
  refine lv_aload_n hx hb dL_law_834 rfl (lv_at hl 2 rfl) ?_
  refine lv_aload_n hx hb dL_law_835 rfl (lv_at hl 1 rfl) ?_
  refine lv_iload_n hx hb dL_law_836 rfl (lv_at hl 0 rfl) ?_
  refine lv_iconst (v := nI 1) hx hb dL_law_837 (by decide) ?_
  refine lv_iadd hx hb dL_law_838 ?_
  refine va_sld hx hb hX hbl hbA hG.2 (hin 1 (by decide)) dL_law_839 ?_
  refine fp_callVi (As := [.int (xs (Int32.toNatClampNeg (nI (4 * j) + nI 1)))]) (rest := []) E hG (c_X11_seed l D G B h1) cv_X11_seed twl_773 twl_774 twl_775 ⟨rfl, rfl⟩ ⟨Nat.le_of_ble_eq_true rfl, Nat.le_of_ble_eq_true rfl⟩ (fp_recv E hG (by decide) (fp_o11 _) rfl) rfl rfl (Nat.le_of_ble_eq_true rfl) hl.1 dL_law_840 ⟨Nat.le_of_ble_eq_true rfl, Nat.le_of_ble_eq_true rfl⟩ (fun H locs hG => ?_)
  refine lv_aload_n hx hb dL_law_843 rfl (lv_at hl 3 rfl) ?_
  refine lv_aload_n hx hb dL_law_844 rfl (lv_at hl 1 rfl) ?_
  refine lv_iload_n hx hb dL_law_845 rfl (lv_at hl 0 rfl) ?_
  refine lv_iconst (v := nI 1) hx hb dL_law_846 (by decide) ?_
  refine lv_iadd hx hb dL_law_847 ?_
  refine va_sld hx hb hX hbl hbA hG.2 (hin 1 (by decide)) dL_law_848 ?_
  refine fp_callVi (As := [.int (xs (Int32.toNatClampNeg (nI (4 * j) + nI 1)))]) (rest := [.int r]) E hG (c_X12_seed l D G B h2) cv_X12_seed twl_1173 twl_1174 twl_1175 ⟨rfl, rfl⟩ ⟨Nat.le_of_ble_eq_true rfl, Nat.le_of_ble_eq_true rfl⟩ (fp_recv E hG (by decide) (fp_o12 _) rfl) rfl rfl (Nat.le_of_ble_eq_true rfl) hl.1 dL_law_849 ⟨Nat.le_of_ble_eq_true rfl, Nat.le_of_ble_eq_true rfl⟩ (fun H locs hG => ?_)
  refine lv_icmp_eq (tgt := 903) hx hb dL_law_852 (by decide) (fun _ => ?_) (fun z => absurd rfl z)
  exact back hI hG hl
set_option maxHeartbeats 4000000 in
theorem fl_keep {p : Program} {l : Launch} {e : Env} {s : State} {m : MethodId} {args : Array Value} {below : List Frame} {meth : Method} {c : Code} {D : va_G} {G : Nat → ClassId} {B b L : Nat} {xs : Nat → Int32} {Q : State → Prop} {M : fp_Mem} {H : Heap} {locs : List Loc} {ls : Array Slot} (E : fp_EV p s m args meth c code 4 RL ret D G) (hX : va_X b L xs s s.heap) (hbl : b < s.heap.size) (hbA : ¬ fp_A B b) (j : Nat) (hin : ∀ k, k < 4 → vp_in (nI (4 * j) + nI k) L)
    (back : ∀ {M : fp_Mem} {H : Heap} {locs : List Loc} {ls : Array Slot}, fp_Inv M → fp_H D G B s M H locs → lv_has ls 4 [(3, .int (nI (4 * j))), (0, .ref b), (1, .ref (B + 0)), (2, .ref (B + 120))] → W p l e room_1 s m args below meth c H locs 140 2279 Q (F0 m 903 ls []))
    (hI : fp_Inv M) (hG : fp_H D G B s M H locs) (hl : lv_has ls 4 [(3, .int (nI (4 * j))), (0, .ref b), (1, .ref (B + 0)), (2, .ref (B + 120))]) : W p l e room_1 s m args below meth c H locs 140 2279 Q (F0 m 857 ls []) := by
  have hx := E.1
  have hb := E.2.1
  obtain ⟨r, M1, M2, h1, h2, hI⟩ := st_keep hI (xs (Int32.toNatClampNeg (nI (4 * j) + nI 1)))
  refine lv_aload_n hx hb dL_law_857 rfl (lv_at hl 2 rfl) ?_
  refine lv_aload_n hx hb dL_law_858 rfl (lv_at hl 1 rfl) ?_
  refine lv_iload_n hx hb dL_law_859 rfl (lv_at hl 0 rfl) ?_
  refine lv_iconst (v := nI 1) hx hb dL_law_860 (by decide) ?_
  refine lv_iadd hx hb dL_law_861 ?_
  refine va_sld hx hb hX hbl hbA hG.2 (hin 1 (by decide)) dL_law_862 ?_
  refine fp_callVi (As := [.int (xs (Int32.toNatClampNeg (nI (4 * j) + nI 1)))]) (rest := []) E hG (c_X11_keep l D G B h1) cv_X11_keep twl_777 twl_778 twl_779 ⟨rfl, rfl⟩ ⟨Nat.le_of_ble_eq_true rfl, Nat.le_of_ble_eq_true rfl⟩ (fp_recv E hG (by decide) (fp_o11 _) rfl) rfl rfl (Nat.le_of_ble_eq_true rfl) hl.1 dL_law_863 ⟨Nat.le_of_ble_eq_true rfl, Nat.le_of_ble_eq_true rfl⟩ (fun H locs hG => ?_)
  refine lv_aload_n hx hb dL_law_866 rfl (lv_at hl 3 rfl) ?_
  refine lv_aload_n hx hb dL_law_867 rfl (lv_at hl 1 rfl) ?_
  refine lv_iload_n hx hb dL_law_868 rfl (lv_at hl 0 rfl) ?_
  refine lv_iconst (v := nI 1) hx hb dL_law_869 (by decide) ?_
  refine lv_iadd hx hb dL_law_870 ?_
  refine va_sld hx hb hX hbl hbA hG.2 (hin 1 (by decide)) dL_law_871 ?_
  refine fp_callVi (As := [.int (xs (Int32.toNatClampNeg (nI (4 * j) + nI 1)))]) (rest := [.int r]) E hG (c_X12_keep l D G B h2) cv_X12_keep twl_1177 twl_1178 twl_1179 ⟨rfl, rfl⟩ ⟨Nat.le_of_ble_eq_true rfl, Nat.le_of_ble_eq_true rfl⟩ (fp_recv E hG (by decide) (fp_o12 _) rfl) rfl rfl (Nat.le_of_ble_eq_true rfl) hl.1 dL_law_872 ⟨Nat.le_of_ble_eq_true rfl, Nat.le_of_ble_eq_true rfl⟩ (fun H locs hG => ?_)
  refine lv_icmp_eq (tgt := 903) hx hb dL_law_875 (by decide) (fun _ => ?_) (fun z => absurd rfl z)
  exact back hI hG hl
set_option maxHeartbeats 4000000 in
theorem fl_goBack {p : Program} {l : Launch} {e : Env} {s : State} {m : MethodId} {args : Array Value} {below : List Frame} {meth : Method} {c : Code} {D : va_G} {G : Nat → ClassId} {B b L : Nat} {xs : Nat → Int32} {Q : State → Prop} {M : fp_Mem} {H : Heap} {locs : List Loc} {ls : Array Slot} (E : fp_EV p s m args meth c code 4 RL ret D G) (hX : va_X b L xs s s.heap) (hbl : b < s.heap.size) (hbA : ¬ fp_A B b) (j : Nat) (hin : ∀ k, k < 4 → vp_in (nI (4 * j) + nI k) L)
    (back : ∀ {M : fp_Mem} {H : Heap} {locs : List Loc} {ls : Array Slot}, fp_Inv M → fp_H D G B s M H locs → lv_has ls 4 [(3, .int (nI (4 * j))), (0, .ref b), (1, .ref (B + 0)), (2, .ref (B + 120))] → W p l e room_1 s m args below meth c H locs 140 2279 Q (F0 m 903 ls []))
    (hI : fp_Inv M) (hG : fp_H D G B s M H locs) (hl : lv_has ls 4 [(3, .int (nI (4 * j))), (0, .ref b), (1, .ref (B + 0)), (2, .ref (B + 120))]) : W p l e room_1 s m args below meth c H locs 140 2279 Q (F0 m 880 ls []) := by
  have hx := E.1
  have hb := E.2.1
  obtain ⟨r, M1, M2, h1, h2, hI⟩ := st_goBack hI (xs (Int32.toNatClampNeg (nI (4 * j) + nI 1)))
  refine lv_aload_n hx hb dL_law_880 rfl (lv_at hl 2 rfl) ?_
  refine lv_aload_n hx hb dL_law_881 rfl (lv_at hl 1 rfl) ?_
  refine lv_iload_n hx hb dL_law_882 rfl (lv_at hl 0 rfl) ?_
  refine lv_iconst (v := nI 1) hx hb dL_law_883 (by decide) ?_
  refine lv_iadd hx hb dL_law_884 ?_
  refine va_sld hx hb hX hbl hbA hG.2 (hin 1 (by decide)) dL_law_885 ?_
  refine fp_callVi (As := [.int (xs (Int32.toNatClampNeg (nI (4 * j) + nI 1)))]) (rest := []) E hG (c_X11_goBack l D G B h1) cv_X11_goBack twl_791 twl_792 twl_793 ⟨rfl, rfl⟩ ⟨Nat.le_of_ble_eq_true rfl, Nat.le_of_ble_eq_true rfl⟩ (fp_recv E hG (by decide) (fp_o11 _) rfl) rfl rfl (Nat.le_of_ble_eq_true rfl) hl.1 dL_law_886 ⟨Nat.le_of_ble_eq_true rfl, Nat.le_of_ble_eq_true rfl⟩ (fun H locs hG => ?_)
  refine lv_aload_n hx hb dL_law_889 rfl (lv_at hl 3 rfl) ?_
  refine lv_aload_n hx hb dL_law_890 rfl (lv_at hl 1 rfl) ?_
  refine lv_iload_n hx hb dL_law_891 rfl (lv_at hl 0 rfl) ?_
  refine lv_iconst (v := nI 1) hx hb dL_law_892 (by decide) ?_
  refine lv_iadd hx hb dL_law_893 ?_
  refine va_sld hx hb hX hbl hbA hG.2 (hin 1 (by decide)) dL_law_894 ?_
  refine fp_callVi (As := [.int (xs (Int32.toNatClampNeg (nI (4 * j) + nI 1)))]) (rest := [.int r]) E hG (c_X12_goBack l D G B h2) cv_X12_goBack twl_1181 twl_1182 twl_1183 ⟨rfl, rfl⟩ ⟨Nat.le_of_ble_eq_true rfl, Nat.le_of_ble_eq_true rfl⟩ (fp_recv E hG (by decide) (fp_o12 _) rfl) rfl rfl (Nat.le_of_ble_eq_true rfl) hl.1 dL_law_895 ⟨Nat.le_of_ble_eq_true rfl, Nat.le_of_ble_eq_true rfl⟩ (fun H locs hG => ?_)
  refine lv_icmp_eq (tgt := 903) hx hb dL_law_898 (by decide) (fun _ => ?_) (fun z => absurd rfl z)
  exact back hI hG hl
