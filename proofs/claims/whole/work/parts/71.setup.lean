theorem iw_45 : inT (.initialized RX8) := inT_of 45 (by decide +kernel) (by decide +kernel)
theorem iw_60 : inT (.initialized RX9) := inT_of 60 (by decide +kernel) (by decide +kernel)
theorem iw_63 : inT (.classLink RL 7 RX8) := inT_of 63 (by decide +kernel) (by decide +kernel)
theorem iw_64 : inT (.instantiable RX8 10) := inT_of 64 (by decide +kernel) (by decide +kernel)
theorem iw_66 : inT (.instanceMethod yX8_init) := inT_of 66 (by decide +kernel) (by decide +kernel)
theorem iw_67 : inT (.code yX8_init cX8_init 2 none) := inT_of 67 (by decide +kernel) (by decide +kernel)
theorem iw_439 : inT (.methodLink RL 13 yX8_write) := inT_of 439 (by decide +kernel) (by decide +kernel)
theorem iw_440 : inT (.instanceMethod yX8_write) := inT_of 440 (by decide +kernel) (by decide +kernel)
theorem iw_441 : inT (.selects RX8 yX8_write yX8_write) := inT_of 441 (by decide +kernel) (by decide +kernel)
theorem iw_443 : inT (.methodLink RL 18 yX8_wipe) := inT_of 443 (by decide +kernel) (by decide +kernel)
theorem iw_444 : inT (.instanceMethod yX8_wipe) := inT_of 444 (by decide +kernel) (by decide +kernel)
theorem iw_445 : inT (.selects RX8 yX8_wipe yX8_wipe) := inT_of 445 (by decide +kernel) (by decide +kernel)
theorem iw_447 : inT (.methodLink RL 23 yX8_fault) := inT_of 447 (by decide +kernel) (by decide +kernel)
theorem iw_448 : inT (.instanceMethod yX8_fault) := inT_of 448 (by decide +kernel) (by decide +kernel)
theorem iw_449 : inT (.selects RX8 yX8_fault yX8_fault) := inT_of 449 (by decide +kernel) (by decide +kernel)
theorem iw_451 : inT (.methodLink RL 27 yX8_lay) := inT_of 451 (by decide +kernel) (by decide +kernel)
theorem iw_452 : inT (.instanceMethod yX8_lay) := inT_of 452 (by decide +kernel) (by decide +kernel)
theorem iw_453 : inT (.selects RX8 yX8_lay yX8_lay) := inT_of 453 (by decide +kernel) (by decide +kernel)
theorem iw_463 : inT (.methodLink RL 31 yX8_person) := inT_of 463 (by decide +kernel) (by decide +kernel)
theorem iw_464 : inT (.instanceMethod yX8_person) := inT_of 464 (by decide +kernel) (by decide +kernel)
theorem iw_465 : inT (.selects RX8 yX8_person yX8_person) := inT_of 465 (by decide +kernel) (by decide +kernel)
theorem iw_475 : inT (.methodLink RL 36 yX8_thing) := inT_of 475 (by decide +kernel) (by decide +kernel)
theorem iw_476 : inT (.instanceMethod yX8_thing) := inT_of 476 (by decide +kernel) (by decide +kernel)
theorem iw_477 : inT (.selects RX8 yX8_thing yX8_thing) := inT_of 477 (by decide +kernel) (by decide +kernel)
theorem iw_487 : inT (.methodLink RL 40 yX8_pass) := inT_of 487 (by decide +kernel) (by decide +kernel)
theorem iw_488 : inT (.instanceMethod yX8_pass) := inT_of 488 (by decide +kernel) (by decide +kernel)
theorem iw_489 : inT (.selects RX8 yX8_pass yX8_pass) := inT_of 489 (by decide +kernel) (by decide +kernel)
theorem iw_583 : inT (.methodLink RL 44 yX8_hide) := inT_of 583 (by decide +kernel) (by decide +kernel)
theorem iw_584 : inT (.instanceMethod yX8_hide) := inT_of 584 (by decide +kernel) (by decide +kernel)
theorem iw_585 : inT (.selects RX8 yX8_hide yX8_hide) := inT_of 585 (by decide +kernel) (by decide +kernel)
theorem iw_587 : inT (.methodLink RL 48 yX8_arrange) := inT_of 587 (by decide +kernel) (by decide +kernel)
theorem iw_588 : inT (.instanceMethod yX8_arrange) := inT_of 588 (by decide +kernel) (by decide +kernel)
theorem iw_589 : inT (.selects RX8 yX8_arrange yX8_arrange) := inT_of 589 (by decide +kernel) (by decide +kernel)
theorem iw_594 : inT (.methodLink RL 53 yX8_undo) := inT_of 594 (by decide +kernel) (by decide +kernel)
theorem iw_595 : inT (.instanceMethod yX8_undo) := inT_of 595 (by decide +kernel) (by decide +kernel)
theorem iw_596 : inT (.selects RX8 yX8_undo yX8_undo) := inT_of 596 (by decide +kernel) (by decide +kernel)
theorem iw_602 : inT (.methodLink RL 57 yX8_king) := inT_of 602 (by decide +kernel) (by decide +kernel)
theorem iw_603 : inT (.instanceMethod yX8_king) := inT_of 603 (by decide +kernel) (by decide +kernel)
theorem iw_604 : inT (.selects RX8 yX8_king yX8_king) := inT_of 604 (by decide +kernel) (by decide +kernel)
theorem iw_613 : inT (.methodLink RL 61 yX8_bell) := inT_of 613 (by decide +kernel) (by decide +kernel)
theorem iw_614 : inT (.instanceMethod yX8_bell) := inT_of 614 (by decide +kernel) (by decide +kernel)
theorem iw_615 : inT (.selects RX8 yX8_bell yX8_bell) := inT_of 615 (by decide +kernel) (by decide +kernel)
theorem iw_621 : inT (.methodLink RL 65 yX8_hides) := inT_of 621 (by decide +kernel) (by decide +kernel)
theorem iw_622 : inT (.instanceMethod yX8_hides) := inT_of 622 (by decide +kernel) (by decide +kernel)
theorem iw_623 : inT (.selects RX8 yX8_hides yX8_hides) := inT_of 623 (by decide +kernel) (by decide +kernel)
theorem iw_639 : inT (.methodLink RL 69 yX8_raise) := inT_of 639 (by decide +kernel) (by decide +kernel)
theorem iw_640 : inT (.instanceMethod yX8_raise) := inT_of 640 (by decide +kernel) (by decide +kernel)
theorem iw_641 : inT (.selects RX8 yX8_raise yX8_raise) := inT_of 641 (by decide +kernel) (by decide +kernel)
theorem iw_663 : inT (.methodLink RL 73 yX8_order) := inT_of 663 (by decide +kernel) (by decide +kernel)
theorem iw_664 : inT (.instanceMethod yX8_order) := inT_of 664 (by decide +kernel) (by decide +kernel)
theorem iw_665 : inT (.selects RX8 yX8_order yX8_order) := inT_of 665 (by decide +kernel) (by decide +kernel)
theorem iw_694 : inT (.methodLink RL 77 yX8_away) := inT_of 694 (by decide +kernel) (by decide +kernel)
theorem iw_695 : inT (.instanceMethod yX8_away) := inT_of 695 (by decide +kernel) (by decide +kernel)
theorem iw_696 : inT (.selects RX8 yX8_away yX8_away) := inT_of 696 (by decide +kernel) (by decide +kernel)
theorem iw_698 : inT (.methodLink RL 81 yX8_seen) := inT_of 698 (by decide +kernel) (by decide +kernel)
theorem iw_699 : inT (.instanceMethod yX8_seen) := inT_of 699 (by decide +kernel) (by decide +kernel)
theorem iw_700 : inT (.selects RX8 yX8_seen yX8_seen) := inT_of 700 (by decide +kernel) (by decide +kernel)
theorem iw_706 : inT (.methodLink RL 85 yX8_forget) := inT_of 706 (by decide +kernel) (by decide +kernel)
theorem iw_707 : inT (.instanceMethod yX8_forget) := inT_of 707 (by decide +kernel) (by decide +kernel)
theorem iw_708 : inT (.selects RX8 yX8_forget yX8_forget) := inT_of 708 (by decide +kernel) (by decide +kernel)
theorem iw_710 : inT (.methodLink RL 89 yX8_tastes) := inT_of 710 (by decide +kernel) (by decide +kernel)
theorem iw_711 : inT (.instanceMethod yX8_tastes) := inT_of 711 (by decide +kernel) (by decide +kernel)
theorem iw_712 : inT (.selects RX8 yX8_tastes yX8_tastes) := inT_of 712 (by decide +kernel) (by decide +kernel)
theorem iw_732 : inT (.methodLink RL 93 yX8_lasts) := inT_of 732 (by decide +kernel) (by decide +kernel)
theorem iw_733 : inT (.instanceMethod yX8_lasts) := inT_of 733 (by decide +kernel) (by decide +kernel)
theorem iw_734 : inT (.selects RX8 yX8_lasts yX8_lasts) := inT_of 734 (by decide +kernel) (by decide +kernel)
theorem iw_749 : inT (.methodLink RL 98 yX8_content) := inT_of 749 (by decide +kernel) (by decide +kernel)
theorem iw_750 : inT (.instanceMethod yX8_content) := inT_of 750 (by decide +kernel) (by decide +kernel)
theorem iw_751 : inT (.selects RX8 yX8_content yX8_content) := inT_of 751 (by decide +kernel) (by decide +kernel)
theorem iw_753 : inT (.methodLink RL 102 yX8_dull) := inT_of 753 (by decide +kernel) (by decide +kernel)
theorem iw_754 : inT (.instanceMethod yX8_dull) := inT_of 754 (by decide +kernel) (by decide +kernel)
theorem iw_755 : inT (.selects RX8 yX8_dull yX8_dull) := inT_of 755 (by decide +kernel) (by decide +kernel)
theorem iw_757 : inT (.methodLink RL 106 yX8_year) := inT_of 757 (by decide +kernel) (by decide +kernel)
theorem iw_758 : inT (.instanceMethod yX8_year) := inT_of 758 (by decide +kernel) (by decide +kernel)
theorem iw_759 : inT (.selects RX8 yX8_year yX8_year) := inT_of 759 (by decide +kernel) (by decide +kernel)
theorem iw_768 : inT (.methodLink RL 110 yX8_keep) := inT_of 768 (by decide +kernel) (by decide +kernel)
theorem iw_769 : inT (.instanceMethod yX8_keep) := inT_of 769 (by decide +kernel) (by decide +kernel)
theorem iw_770 : inT (.selects RX8 yX8_keep yX8_keep) := inT_of 770 (by decide +kernel) (by decide +kernel)
theorem iw_772 : inT (.methodLink RL 114 yX8_back) := inT_of 772 (by decide +kernel) (by decide +kernel)
theorem iw_773 : inT (.instanceMethod yX8_back) := inT_of 773 (by decide +kernel) (by decide +kernel)
theorem iw_774 : inT (.selects RX8 yX8_back yX8_back) := inT_of 774 (by decide +kernel) (by decide +kernel)
theorem iw_776 : inT (.methodLink RL 118 yX8_count) := inT_of 776 (by decide +kernel) (by decide +kernel)
theorem iw_777 : inT (.instanceMethod yX8_count) := inT_of 777 (by decide +kernel) (by decide +kernel)
theorem iw_778 : inT (.selects RX8 yX8_count yX8_count) := inT_of 778 (by decide +kernel) (by decide +kernel)
theorem iw_780 : inT (.classLink RL 10 RX9) := inT_of 780 (by decide +kernel) (by decide +kernel)
theorem iw_781 : inT (.instantiable RX9 24) := inT_of 781 (by decide +kernel) (by decide +kernel)
theorem iw_783 : inT (.instanceMethod yX9_init) := inT_of 783 (by decide +kernel) (by decide +kernel)
theorem iw_784 : inT (.code yX9_init cX9_init 1 none) := inT_of 784 (by decide +kernel) (by decide +kernel)
theorem iw_877 : inT (.methodLink RL 17 yX9_write) := inT_of 877 (by decide +kernel) (by decide +kernel)
theorem iw_878 : inT (.instanceMethod yX9_write) := inT_of 878 (by decide +kernel) (by decide +kernel)
theorem iw_879 : inT (.selects RX9 yX9_write yX9_write) := inT_of 879 (by decide +kernel) (by decide +kernel)
theorem iw_884 : inT (.methodLink RL 22 yX9_wipe) := inT_of 884 (by decide +kernel) (by decide +kernel)
theorem iw_885 : inT (.instanceMethod yX9_wipe) := inT_of 885 (by decide +kernel) (by decide +kernel)
theorem iw_886 : inT (.selects RX9 yX9_wipe yX9_wipe) := inT_of 886 (by decide +kernel) (by decide +kernel)
theorem iw_888 : inT (.methodLink RL 26 yX9_fault) := inT_of 888 (by decide +kernel) (by decide +kernel)
theorem iw_889 : inT (.instanceMethod yX9_fault) := inT_of 889 (by decide +kernel) (by decide +kernel)
theorem iw_890 : inT (.selects RX9 yX9_fault yX9_fault) := inT_of 890 (by decide +kernel) (by decide +kernel)
theorem iw_923 : inT (.methodLink RL 30 yX9_lay) := inT_of 923 (by decide +kernel) (by decide +kernel)
theorem iw_924 : inT (.instanceMethod yX9_lay) := inT_of 924 (by decide +kernel) (by decide +kernel)
theorem iw_925 : inT (.selects RX9 yX9_lay yX9_lay) := inT_of 925 (by decide +kernel) (by decide +kernel)
theorem iw_928 : inT (.methodLink RL 35 yX9_person) := inT_of 928 (by decide +kernel) (by decide +kernel)
theorem iw_929 : inT (.instanceMethod yX9_person) := inT_of 929 (by decide +kernel) (by decide +kernel)
theorem iw_930 : inT (.selects RX9 yX9_person yX9_person) := inT_of 930 (by decide +kernel) (by decide +kernel)
theorem iw_936 : inT (.methodLink RL 39 yX9_thing) := inT_of 936 (by decide +kernel) (by decide +kernel)
theorem iw_937 : inT (.instanceMethod yX9_thing) := inT_of 937 (by decide +kernel) (by decide +kernel)
theorem iw_938 : inT (.selects RX9 yX9_thing yX9_thing) := inT_of 938 (by decide +kernel) (by decide +kernel)
theorem iw_944 : inT (.methodLink RL 43 yX9_pass) := inT_of 944 (by decide +kernel) (by decide +kernel)
theorem iw_945 : inT (.instanceMethod yX9_pass) := inT_of 945 (by decide +kernel) (by decide +kernel)
theorem iw_946 : inT (.selects RX9 yX9_pass yX9_pass) := inT_of 946 (by decide +kernel) (by decide +kernel)
theorem iw_982 : inT (.methodLink RL 47 yX9_hide) := inT_of 982 (by decide +kernel) (by decide +kernel)
theorem iw_983 : inT (.instanceMethod yX9_hide) := inT_of 983 (by decide +kernel) (by decide +kernel)
theorem iw_984 : inT (.selects RX9 yX9_hide yX9_hide) := inT_of 984 (by decide +kernel) (by decide +kernel)
theorem iw_986 : inT (.methodLink RL 52 yX9_arrange) := inT_of 986 (by decide +kernel) (by decide +kernel)
theorem iw_987 : inT (.instanceMethod yX9_arrange) := inT_of 987 (by decide +kernel) (by decide +kernel)
theorem iw_988 : inT (.selects RX9 yX9_arrange yX9_arrange) := inT_of 988 (by decide +kernel) (by decide +kernel)
theorem iw_990 : inT (.methodLink RL 56 yX9_undo) := inT_of 990 (by decide +kernel) (by decide +kernel)
theorem iw_991 : inT (.instanceMethod yX9_undo) := inT_of 991 (by decide +kernel) (by decide +kernel)
theorem iw_992 : inT (.selects RX9 yX9_undo yX9_undo) := inT_of 992 (by decide +kernel) (by decide +kernel)
theorem iw_994 : inT (.methodLink RL 60 yX9_king) := inT_of 994 (by decide +kernel) (by decide +kernel)
theorem iw_995 : inT (.instanceMethod yX9_king) := inT_of 995 (by decide +kernel) (by decide +kernel)
theorem iw_996 : inT (.selects RX9 yX9_king yX9_king) := inT_of 996 (by decide +kernel) (by decide +kernel)
theorem iw_998 : inT (.methodLink RL 64 yX9_bell) := inT_of 998 (by decide +kernel) (by decide +kernel)
theorem iw_999 : inT (.instanceMethod yX9_bell) := inT_of 999 (by decide +kernel) (by decide +kernel)
theorem iw_1000 : inT (.selects RX9 yX9_bell yX9_bell) := inT_of 1000 (by decide +kernel) (by decide +kernel)
theorem iw_1006 : inT (.methodLink RL 68 yX9_hides) := inT_of 1006 (by decide +kernel) (by decide +kernel)
theorem iw_1007 : inT (.instanceMethod yX9_hides) := inT_of 1007 (by decide +kernel) (by decide +kernel)
theorem iw_1008 : inT (.selects RX9 yX9_hides yX9_hides) := inT_of 1008 (by decide +kernel) (by decide +kernel)
theorem iw_1010 : inT (.methodLink RL 72 yX9_raise) := inT_of 1010 (by decide +kernel) (by decide +kernel)
theorem iw_1011 : inT (.instanceMethod yX9_raise) := inT_of 1011 (by decide +kernel) (by decide +kernel)
theorem iw_1012 : inT (.selects RX9 yX9_raise yX9_raise) := inT_of 1012 (by decide +kernel) (by decide +kernel)
theorem iw_1018 : inT (.methodLink RL 76 yX9_order) := inT_of 1018 (by decide +kernel) (by decide +kernel)
theorem iw_1019 : inT (.instanceMethod yX9_order) := inT_of 1019 (by decide +kernel) (by decide +kernel)
theorem iw_1020 : inT (.selects RX9 yX9_order yX9_order) := inT_of 1020 (by decide +kernel) (by decide +kernel)
theorem iw_1026 : inT (.methodLink RL 80 yX9_away) := inT_of 1026 (by decide +kernel) (by decide +kernel)
theorem iw_1027 : inT (.instanceMethod yX9_away) := inT_of 1027 (by decide +kernel) (by decide +kernel)
theorem iw_1028 : inT (.selects RX9 yX9_away yX9_away) := inT_of 1028 (by decide +kernel) (by decide +kernel)
theorem iw_1030 : inT (.methodLink RL 84 yX9_seen) := inT_of 1030 (by decide +kernel) (by decide +kernel)
theorem iw_1031 : inT (.instanceMethod yX9_seen) := inT_of 1031 (by decide +kernel) (by decide +kernel)
theorem iw_1032 : inT (.selects RX9 yX9_seen yX9_seen) := inT_of 1032 (by decide +kernel) (by decide +kernel)
theorem iw_1034 : inT (.methodLink RL 88 yX9_forget) := inT_of 1034 (by decide +kernel) (by decide +kernel)
theorem iw_1035 : inT (.instanceMethod yX9_forget) := inT_of 1035 (by decide +kernel) (by decide +kernel)
theorem iw_1036 : inT (.selects RX9 yX9_forget yX9_forget) := inT_of 1036 (by decide +kernel) (by decide +kernel)
theorem iw_1038 : inT (.methodLink RL 92 yX9_tastes) := inT_of 1038 (by decide +kernel) (by decide +kernel)
theorem iw_1039 : inT (.instanceMethod yX9_tastes) := inT_of 1039 (by decide +kernel) (by decide +kernel)
theorem iw_1040 : inT (.selects RX9 yX9_tastes yX9_tastes) := inT_of 1040 (by decide +kernel) (by decide +kernel)
theorem iw_1042 : inT (.methodLink RL 97 yX9_lasts) := inT_of 1042 (by decide +kernel) (by decide +kernel)
theorem iw_1043 : inT (.instanceMethod yX9_lasts) := inT_of 1043 (by decide +kernel) (by decide +kernel)
theorem iw_1044 : inT (.selects RX9 yX9_lasts yX9_lasts) := inT_of 1044 (by decide +kernel) (by decide +kernel)
theorem iw_1046 : inT (.methodLink RL 101 yX9_content) := inT_of 1046 (by decide +kernel) (by decide +kernel)
theorem iw_1047 : inT (.instanceMethod yX9_content) := inT_of 1047 (by decide +kernel) (by decide +kernel)
theorem iw_1048 : inT (.selects RX9 yX9_content yX9_content) := inT_of 1048 (by decide +kernel) (by decide +kernel)
theorem iw_1050 : inT (.methodLink RL 105 yX9_dull) := inT_of 1050 (by decide +kernel) (by decide +kernel)
theorem iw_1051 : inT (.instanceMethod yX9_dull) := inT_of 1051 (by decide +kernel) (by decide +kernel)
theorem iw_1052 : inT (.selects RX9 yX9_dull yX9_dull) := inT_of 1052 (by decide +kernel) (by decide +kernel)
theorem iw_1054 : inT (.methodLink RL 109 yX9_year) := inT_of 1054 (by decide +kernel) (by decide +kernel)
theorem iw_1055 : inT (.instanceMethod yX9_year) := inT_of 1055 (by decide +kernel) (by decide +kernel)
theorem iw_1056 : inT (.selects RX9 yX9_year yX9_year) := inT_of 1056 (by decide +kernel) (by decide +kernel)
theorem iw_1062 : inT (.methodLink RL 113 yX9_keep) := inT_of 1062 (by decide +kernel) (by decide +kernel)
theorem iw_1063 : inT (.instanceMethod yX9_keep) := inT_of 1063 (by decide +kernel) (by decide +kernel)
theorem iw_1064 : inT (.selects RX9 yX9_keep yX9_keep) := inT_of 1064 (by decide +kernel) (by decide +kernel)
theorem iw_1066 : inT (.methodLink RL 117 yX9_back) := inT_of 1066 (by decide +kernel) (by decide +kernel)
theorem iw_1067 : inT (.instanceMethod yX9_back) := inT_of 1067 (by decide +kernel) (by decide +kernel)
theorem iw_1068 : inT (.selects RX9 yX9_back yX9_back) := inT_of 1068 (by decide +kernel) (by decide +kernel)
theorem iw_1070 : inT (.methodLink RL 121 yX9_count) := inT_of 1070 (by decide +kernel) (by decide +kernel)
theorem iw_1071 : inT (.instanceMethod yX9_count) := inT_of 1071 (by decide +kernel) (by decide +kernel)
theorem iw_1072 : inT (.selects RX9 yX9_count yX9_count) := inT_of 1072 (by decide +kernel) (by decide +kernel)
theorem mL_13 : MLV RL 13 yX8_write cX8_write 2 (some .int) 1 := ⟨mb_X8_write, Or.inl iw_439, iw_440, iw_441⟩
theorem mL_17 : MLV RL 17 yX9_write cX9_write 2 (some .int) 1 := ⟨mb_X9_write, Or.inl iw_877, iw_878, iw_879⟩
theorem mL_18 : MLV RL 18 yX8_wipe cX8_wipe 2 (some .int) 0 := ⟨mb_X8_wipe, Or.inl iw_443, iw_444, iw_445⟩
theorem mL_22 : MLV RL 22 yX9_wipe cX9_wipe 2 (some .int) 0 := ⟨mb_X9_wipe, Or.inl iw_884, iw_885, iw_886⟩
theorem mL_23 : MLV RL 23 yX8_fault cX8_fault 1 (some .int) 0 := ⟨mb_X8_fault, Or.inl iw_447, iw_448, iw_449⟩
theorem mL_26 : MLV RL 26 yX9_fault cX9_fault 2 (some .int) 0 := ⟨mb_X9_fault, Or.inl iw_888, iw_889, iw_890⟩
theorem mL_27 : MLV RL 27 yX8_lay cX8_lay 1 (some .int) 0 := ⟨mb_X8_lay, Or.inl iw_451, iw_452, iw_453⟩
theorem mL_30 : MLV RL 30 yX9_lay cX9_lay 1 (some .int) 0 := ⟨mb_X9_lay, Or.inl iw_923, iw_924, iw_925⟩
theorem mL_31 : MLV RL 31 yX8_person cX8_person 3 (some .int) 2 := ⟨mb_X8_person, Or.inl iw_463, iw_464, iw_465⟩
theorem mL_35 : MLV RL 35 yX9_person cX9_person 4 (some .int) 2 := ⟨mb_X9_person, Or.inl iw_928, iw_929, iw_930⟩
theorem mL_36 : MLV RL 36 yX8_thing cX8_thing 3 (some .int) 2 := ⟨mb_X8_thing, Or.inl iw_475, iw_476, iw_477⟩
theorem mL_39 : MLV RL 39 yX9_thing cX9_thing 3 (some .int) 2 := ⟨mb_X9_thing, Or.inl iw_936, iw_937, iw_938⟩
theorem mL_40 : MLV RL 40 yX8_pass cX8_pass 4 (some .int) 1 := ⟨mb_X8_pass, Or.inl iw_487, iw_488, iw_489⟩
theorem mL_43 : MLV RL 43 yX9_pass cX9_pass 3 (some .int) 1 := ⟨mb_X9_pass, Or.inl iw_944, iw_945, iw_946⟩
theorem mL_44 : MLV RL 44 yX8_hide cX8_hide 2 (some .int) 1 := ⟨mb_X8_hide, Or.inl iw_583, iw_584, iw_585⟩
theorem mL_47 : MLV RL 47 yX9_hide cX9_hide 2 (some .int) 1 := ⟨mb_X9_hide, Or.inl iw_982, iw_983, iw_984⟩
theorem mL_48 : MLV RL 48 yX8_arrange cX8_arrange 4 (some .int) 3 := ⟨mb_X8_arrange, Or.inl iw_587, iw_588, iw_589⟩
theorem mL_52 : MLV RL 52 yX9_arrange cX9_arrange 4 (some .int) 3 := ⟨mb_X9_arrange, Or.inl iw_986, iw_987, iw_988⟩
theorem mL_53 : MLV RL 53 yX8_undo cX8_undo 1 (some .int) 0 := ⟨mb_X8_undo, Or.inl iw_594, iw_595, iw_596⟩
theorem mL_56 : MLV RL 56 yX9_undo cX9_undo 2 (some .int) 0 := ⟨mb_X9_undo, Or.inl iw_990, iw_991, iw_992⟩
theorem mL_57 : MLV RL 57 yX8_king cX8_king 4 (some .int) 2 := ⟨mb_X8_king, Or.inl iw_602, iw_603, iw_604⟩
theorem mL_60 : MLV RL 60 yX9_king cX9_king 3 (some .int) 2 := ⟨mb_X9_king, Or.inl iw_994, iw_995, iw_996⟩
theorem mL_61 : MLV RL 61 yX8_bell cX8_bell 2 (some .int) 0 := ⟨mb_X8_bell, Or.inl iw_613, iw_614, iw_615⟩
theorem mL_64 : MLV RL 64 yX9_bell cX9_bell 1 (some .int) 0 := ⟨mb_X9_bell, Or.inl iw_998, iw_999, iw_1000⟩
theorem mL_65 : MLV RL 65 yX8_hides cX8_hides 6 (some .int) 1 := ⟨mb_X8_hides, Or.inl iw_621, iw_622, iw_623⟩
theorem mL_68 : MLV RL 68 yX9_hides cX9_hides 5 (some .int) 1 := ⟨mb_X9_hides, Or.inl iw_1006, iw_1007, iw_1008⟩
theorem mL_69 : MLV RL 69 yX8_raise cX8_raise 8 (some .int) 2 := ⟨mb_X8_raise, Or.inl iw_639, iw_640, iw_641⟩
theorem mL_72 : MLV RL 72 yX9_raise cX9_raise 7 (some .int) 2 := ⟨mb_X9_raise, Or.inl iw_1010, iw_1011, iw_1012⟩
theorem mL_73 : MLV RL 73 yX8_order cX8_order 6 (some .int) 2 := ⟨mb_X8_order, Or.inl iw_663, iw_664, iw_665⟩
theorem mL_76 : MLV RL 76 yX9_order cX9_order 7 (some .int) 2 := ⟨mb_X9_order, Or.inl iw_1018, iw_1019, iw_1020⟩
theorem mL_77 : MLV RL 77 yX8_away cX8_away 6 (some .int) 1 := ⟨mb_X8_away, Or.inl iw_694, iw_695, iw_696⟩
theorem mL_80 : MLV RL 80 yX9_away cX9_away 6 (some .int) 1 := ⟨mb_X9_away, Or.inl iw_1026, iw_1027, iw_1028⟩
theorem mL_81 : MLV RL 81 yX8_seen cX8_seen 3 (some .int) 2 := ⟨mb_X8_seen, Or.inl iw_698, iw_699, iw_700⟩
theorem mL_84 : MLV RL 84 yX9_seen cX9_seen 3 (some .int) 2 := ⟨mb_X9_seen, Or.inl iw_1030, iw_1031, iw_1032⟩
theorem mL_85 : MLV RL 85 yX8_forget cX8_forget 2 (some .int) 0 := ⟨mb_X8_forget, Or.inl iw_706, iw_707, iw_708⟩
theorem mL_88 : MLV RL 88 yX9_forget cX9_forget 2 (some .int) 0 := ⟨mb_X9_forget, Or.inl iw_1034, iw_1035, iw_1036⟩
theorem mL_89 : MLV RL 89 yX8_tastes cX8_tastes 6 (some .int) 2 := ⟨mb_X8_tastes, Or.inl iw_710, iw_711, iw_712⟩
theorem mL_92 : MLV RL 92 yX9_tastes cX9_tastes 10 (some .int) 2 := ⟨mb_X9_tastes, Or.inl iw_1038, iw_1039, iw_1040⟩
theorem mL_93 : MLV RL 93 yX8_lasts cX8_lasts 9 (some .int) 5 := ⟨mb_X8_lasts, Or.inl iw_732, iw_733, iw_734⟩
theorem mL_97 : MLV RL 97 yX9_lasts cX9_lasts 12 (some .int) 5 := ⟨mb_X9_lasts, Or.inl iw_1042, iw_1043, iw_1044⟩
theorem mL_98 : MLV RL 98 yX8_content cX8_content 4 (some .int) 1 := ⟨mb_X8_content, Or.inl iw_749, iw_750, iw_751⟩
theorem mL_101 : MLV RL 101 yX9_content cX9_content 4 (some .int) 1 := ⟨mb_X9_content, Or.inl iw_1046, iw_1047, iw_1048⟩
theorem mL_102 : MLV RL 102 yX8_dull cX8_dull 6 (some .int) 1 := ⟨mb_X8_dull, Or.inl iw_753, iw_754, iw_755⟩
theorem mL_105 : MLV RL 105 yX9_dull cX9_dull 6 (some .int) 1 := ⟨mb_X9_dull, Or.inl iw_1050, iw_1051, iw_1052⟩
theorem mL_106 : MLV RL 106 yX8_year cX8_year 7 (some .int) 3 := ⟨mb_X8_year, Or.inl iw_757, iw_758, iw_759⟩
theorem mL_109 : MLV RL 109 yX9_year cX9_year 9 (some .int) 3 := ⟨mb_X9_year, Or.inl iw_1054, iw_1055, iw_1056⟩
theorem mL_110 : MLV RL 110 yX8_keep cX8_keep 1 (some .int) 0 := ⟨mb_X8_keep, Or.inl iw_768, iw_769, iw_770⟩
theorem mL_113 : MLV RL 113 yX9_keep cX9_keep 1 (some .int) 0 := ⟨mb_X9_keep, Or.inl iw_1062, iw_1063, iw_1064⟩
theorem mL_114 : MLV RL 114 yX8_back cX8_back 1 (some .int) 0 := ⟨mb_X8_back, Or.inl iw_772, iw_773, iw_774⟩
theorem mL_117 : MLV RL 117 yX9_back cX9_back 2 (some .int) 0 := ⟨mb_X9_back, Or.inl iw_1066, iw_1067, iw_1068⟩
theorem mL_118 : MLV RL 118 yX8_count cX8_count 2 (some .int) 1 := ⟨mb_X8_count, Or.inl iw_776, iw_777, iw_778⟩
theorem mL_121 : MLV RL 121 yX9_count cX9_count 2 (some .int) 1 := ⟨mb_X9_count, Or.inl iw_1070, iw_1071, iw_1072⟩
theorem mi_L_9 : MLI RL 9 yX8_init cX8_init 2 0 := ⟨⟨iw_67, by decide +kernel, iw_45, by decide +kernel, by decide +kernel, by decide +kernel⟩, Or.inl (inT_of 65 (by decide +kernel) (by decide +kernel)), iw_66, rfl⟩
theorem mi_L_12 : MLI RL 12 yX9_init cX9_init 1 0 := ⟨⟨iw_784, by decide +kernel, iw_60, by decide +kernel, by decide +kernel, by decide +kernel⟩, Or.inl (inT_of 782 (by decide +kernel) (by decide +kernel)), iw_783, rfl⟩
/-! ===== what the start gives ===== -/
abbrev gv1 : Jvm.Cond := Jvm.Cond.and given_1 narrow_1
abbrev tS : Term := .string "BoredKings" 74
theorem el_in : ∀ j, j < 82 → (Cond.eq (.elem (.field tS "java/lang/String" "value" "[B") (.int (Int32.ofNat j))) (.int (([ftx].getD 0 []).getD j 0))) ∈ flatC gv1 := by decide +kernel
theorem setup {s : State} {b : Nat} (hts : ∀ w ∈ lw_tbl, w.before #[Value.ref b] s = true) (hgv : gv1.before #[Value.ref b] s = true) : ∃ (D : va_G) (cI cM : ClassId) (k v : Nat) (z : Value), z.category = 1 ∧ KB D cI cM s ∧ SWH (Gr s.heap.size) k v z s s.heap ∧ vk_R "BoredKings" 74 ftS k s := by
  obtain ⟨c0, i0, k0⟩ := u_known hts inX0 (hts _ iw_88.1)
  obtain ⟨c1, i1, k1⟩ := u_known hts inX1 (hts _ iw_154.1)
  obtain ⟨c2, i2, k2⟩ := u_known hts inX2 (hts _ iw_229.1)
  obtain ⟨c3, i3, k3⟩ := u_known hts inX3 (hts _ iw_257.1)
  obtain ⟨c4, i4, k4⟩ := u_known hts inX4 (hts _ iw_72.1)
  obtain ⟨c5, i5, k5⟩ := u_known hts inX5 (hts _ iw_189.1)
  obtain ⟨c6, i6, k6⟩ := u_known hts inX6 (hts _ iw_212.1)
  obtain ⟨c7, i7, k7⟩ := u_known hts inX7 (hts _ iw_94.1)
  obtain ⟨c8, i8, k8⟩ := u_known hts inX8 (hts _ iw_64.1)
  obtain ⟨c9, i9, k9⟩ := u_known hts inX9 (hts _ iw_781.1)
  obtain ⟨cI, kI, cpI, g1, g2, g3⟩ := Cond.arrayClass_spec (hts _ iw_86.1)
  obtain ⟨cpM, cM, kM, f4, -, f2, f3, f1⟩ := Cond.arrayOver_spec (n := "BoredKings$Moment") (hts _ (List.mem_of_getElem? (i := 198) (by decide +kernel)))
  have hT : TW s := TW.of hts
  have hq := flat_of_before _ hgv
  have hA : ∀ a : Nat, a < s.heap.size → ¬ Gr s.heap.size a := fun a ha h => by
    have h' : s.heap.size ≤ a := h
    omega
  obtain ⟨adK, adV, hS, hev⟩ := vk_Sof (args := #[Value.ref b]) (s := s) (N := 1) (tm := fun _ => tS) (len := [82]) (byt := [ftx]) (A := Gr s.heap.size)
    (fun i hi => by have : i = 0 := by omega
                    subst this; decide)
    (fun i hi => hq (Cond.exactly tS "java/lang/String") (by decide +kernel))
    (fun i hi => hq (Cond.eq (.field tS "java/lang/String" "coder" "B") (.int 0)) (by decide +kernel))
    (fun i hi => hq (Cond.arrayOf (.field tS "java/lang/String" "value" "[B") .byte) (by decide +kernel))
    (fun i hi => by have : i = 0 := by omega
                    subst this
                    exact hq (Cond.eq (.length (.field tS "java/lang/String" "value" "[B")) (.int 82)) (by decide +kernel))
    (fun i hi j hj => by have : i = 0 := by omega
                         subst this
                         exact hq _ (el_in j hj))
    (fun i j hi hj hne => absurd (show i = j by omega) hne) hA
  obtain ⟨o1, o2, o3, o4⟩ := hS.1 0 (by decide)
  have hC : va_Z "java/lang/String" "COMPACT_STRINGS" "Z" (.int 1) (Gr s.heap.size) s s.heap := va_Zof (hts (Cond.laysStatic "java/lang/String" "COMPACT_STRINGS" "Z") (List.mem_of_getElem? (i := 289) (by decide +kernel))) (hts _ iw_55.1) (va_eqt (hq (Cond.eq (.static "java/lang/String" "COMPACT_STRINGS" "Z") (.int 1)) (by decide +kernel))) hA
  have hF : va_Zq "jdk/internal/util/Preconditions" "SIOOBE_FORMATTER" "Ljava/util/function/BiFunction;" (Gr s.heap.size) s s.heap := va_Zqof (hts (Cond.laysStatic "jdk/internal/util/Preconditions" "SIOOBE_FORMATTER" "Ljava/util/function/BiFunction;") (List.mem_of_getElem? (i := 305) (by decide +kernel))) (hts _ iw_57.1) (hq (Cond.isRef (.static "jdk/internal/util/Preconditions" "SIOOBE_FORMATTER" "Ljava/util/function/BiFunction;")) (by decide +kernel)) hA
  obtain ⟨z, hz, hF⟩ : ∃ z : Value, z.category = 1 ∧ va_Z "jdk/internal/util/Preconditions" "SIOOBE_FORMATTER" "Ljava/util/function/BiFunction;" z (Gr s.heap.size) s s.heap := by
    rcases hF with h | ⟨t, h⟩
    · exact ⟨.null, rfl, h⟩
    · exact ⟨.ref t, rfl, h⟩
  have hR : vk_R "BoredKings" 74 ftS (adK 0) s := vk_R.of (A := #[Value.ref b]) (hts (Cond.stringRef "BoredKings" 74 ftS) (List.mem_of_getElem? (i := 279) (by decide +kernel))) (hev 0 (by decide))
  refine ⟨(fun c => match c with | 0 => c0 | 1 => c1 | 2 => c2 | 3 => c3 | 4 => c4 | 5 => c5 | 6 => c6 | 7 => c7 | 8 => c8 | _ => c9, fun c => match c with | 0 => i0 | 1 => i1 | 2 => i2 | 3 => i3 | 4 => i4 | 5 => i5 | 6 => i6 | 7 => i7 | 8 => i8 | _ => i9), cI, cM, adK 0, adV 0, z, hz, ⟨⟨⟨fun c q hc => ?_, fun k q hk => ?_⟩, hT⟩, hts (Cond.arrayOver (.object "BoredKings$Moment")) (List.mem_of_getElem? (i := 198) (by decide +kernel))⟩, ⟨o1, o2, o3, o4, hC, hF⟩, hR⟩
  · match c, hc with
    | 0, hc => cases hc; exact k0
    | 1, hc => cases hc; exact k1
    | 2, hc => cases hc; exact k2
    | 3, hc => cases hc; exact k3
    | 4, hc => cases hc; exact k4
    | 5, hc => cases hc; exact k5
    | 6, hc => cases hc; exact k6
    | 7, hc => cases hc; exact k7
    | 8, hc => cases hc; exact k8
    | 9, hc => cases hc; exact k9
    | n + 10, hc => exact absurd hc (by show ¬ (none : Option vw_C) = some q; exact fun h => by cases h)
  · match k, hk with
    | 0, hk => cases hk; exact ⟨fun n z => ⟨fun k h => (by cases h), kI, g2, cpI, g3⟩, g1⟩
    | 1, hk => cases hk; exact ⟨fun n z => ⟨fun k h => (by cases h), kM, f2, cpM, f3⟩, kM, cpM, f2, f3, f4, f1⟩
    | n + 2, hk => exact absurd hk (by show ¬ (none : Option (ClassId × FieldType)) = some q; exact fun h => by cases h)
