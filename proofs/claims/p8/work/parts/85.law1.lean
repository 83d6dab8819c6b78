/-! the law's cases -/
theorem dL_law_323 : decode code 323 = .ok (.aload_n 1, 1) := by decide +kernel
theorem dL_law_324 : decode code 324 = .ok (.invokevirtual 26, 3) := by decide +kernel
theorem dL_law_327 : decode code 327 = .ok (.pop, 1) := by decide +kernel
theorem dL_law_328 : decode code 328 = .ok (.aload_n 2, 1) := by decide +kernel
theorem dL_law_329 : decode code 329 = .ok (.invokevirtual 30, 3) := by decide +kernel
theorem dL_law_332 : decode code 332 = .ok (.pop, 1) := by decide +kernel
theorem dL_law_333 : decode code 333 = .ok (.goto 918, 3) := by decide +kernel
theorem dL_law_386 : decode code 386 = .ok (.aload_n 1, 1) := by decide +kernel
theorem dL_law_387 : decode code 387 = .ok (.aload_n 0, 1) := by decide +kernel
theorem dL_law_388 : decode code 388 = .ok (.iload 4, 2) := by decide +kernel
theorem dL_law_390 : decode code 390 = .ok (.iconst 1, 1) := by decide +kernel
theorem dL_law_391 : decode code 391 = .ok (.iadd, 1) := by decide +kernel
theorem dL_law_392 : decode code 392 = .ok (.iaload, 1) := by decide +kernel
theorem dL_law_393 : decode code 393 = .ok (.aload_n 0, 1) := by decide +kernel
theorem dL_law_394 : decode code 394 = .ok (.iload 4, 2) := by decide +kernel
theorem dL_law_396 : decode code 396 = .ok (.iconst 2, 1) := by decide +kernel
theorem dL_law_397 : decode code 397 = .ok (.iadd, 1) := by decide +kernel
theorem dL_law_398 : decode code 398 = .ok (.iaload, 1) := by decide +kernel
theorem dL_law_399 : decode code 399 = .ok (.invokevirtual 40, 3) := by decide +kernel
theorem dL_law_402 : decode code 402 = .ok (.pop, 1) := by decide +kernel
theorem dL_law_403 : decode code 403 = .ok (.aload_n 2, 1) := by decide +kernel
theorem dL_law_404 : decode code 404 = .ok (.aload_n 0, 1) := by decide +kernel
theorem dL_law_405 : decode code 405 = .ok (.iload 4, 2) := by decide +kernel
theorem dL_law_407 : decode code 407 = .ok (.iconst 1, 1) := by decide +kernel
theorem dL_law_408 : decode code 408 = .ok (.iadd, 1) := by decide +kernel
theorem dL_law_409 : decode code 409 = .ok (.iaload, 1) := by decide +kernel
theorem dL_law_410 : decode code 410 = .ok (.aload_n 0, 1) := by decide +kernel
theorem dL_law_411 : decode code 411 = .ok (.iload 4, 2) := by decide +kernel
theorem dL_law_413 : decode code 413 = .ok (.iconst 2, 1) := by decide +kernel
theorem dL_law_414 : decode code 414 = .ok (.iadd, 1) := by decide +kernel
theorem dL_law_415 : decode code 415 = .ok (.iaload, 1) := by decide +kernel
theorem dL_law_416 : decode code 416 = .ok (.invokevirtual 43, 3) := by decide +kernel
theorem dL_law_419 : decode code 419 = .ok (.pop, 1) := by decide +kernel
theorem dL_law_420 : decode code 420 = .ok (.goto 831, 3) := by decide +kernel
theorem dL_law_473 : decode code 473 = .ok (.aload_n 1, 1) := by decide +kernel
theorem dL_law_474 : decode code 474 = .ok (.aload_n 0, 1) := by decide +kernel
theorem dL_law_475 : decode code 475 = .ok (.iload 4, 2) := by decide +kernel
theorem dL_law_477 : decode code 477 = .ok (.iconst 1, 1) := by decide +kernel
theorem dL_law_478 : decode code 478 = .ok (.iadd, 1) := by decide +kernel
theorem dL_law_479 : decode code 479 = .ok (.iaload, 1) := by decide +kernel
theorem dL_law_480 : decode code 480 = .ok (.aload_n 0, 1) := by decide +kernel
theorem dL_law_481 : decode code 481 = .ok (.iload 4, 2) := by decide +kernel
theorem dL_law_483 : decode code 483 = .ok (.iconst 2, 1) := by decide +kernel
theorem dL_law_484 : decode code 484 = .ok (.iadd, 1) := by decide +kernel
theorem dL_law_485 : decode code 485 = .ok (.iaload, 1) := by decide +kernel
theorem dL_law_486 : decode code 486 = .ok (.invokevirtual 53, 3) := by decide +kernel
theorem dL_law_489 : decode code 489 = .ok (.pop, 1) := by decide +kernel
theorem dL_law_490 : decode code 490 = .ok (.aload_n 2, 1) := by decide +kernel
theorem dL_law_491 : decode code 491 = .ok (.aload_n 0, 1) := by decide +kernel
theorem dL_law_492 : decode code 492 = .ok (.iload 4, 2) := by decide +kernel
theorem dL_law_494 : decode code 494 = .ok (.iconst 1, 1) := by decide +kernel
theorem dL_law_495 : decode code 495 = .ok (.iadd, 1) := by decide +kernel
theorem dL_law_496 : decode code 496 = .ok (.iaload, 1) := by decide +kernel
theorem dL_law_497 : decode code 497 = .ok (.aload_n 0, 1) := by decide +kernel
theorem dL_law_498 : decode code 498 = .ok (.iload 4, 2) := by decide +kernel
theorem dL_law_500 : decode code 500 = .ok (.iconst 2, 1) := by decide +kernel
theorem dL_law_501 : decode code 501 = .ok (.iadd, 1) := by decide +kernel
theorem dL_law_502 : decode code 502 = .ok (.iaload, 1) := by decide +kernel
theorem dL_law_503 : decode code 503 = .ok (.invokevirtual 56, 3) := by decide +kernel
theorem dL_law_506 : decode code 506 = .ok (.pop, 1) := by decide +kernel
theorem dL_law_507 : decode code 507 = .ok (.goto 744, 3) := by decide +kernel
theorem dL_law_548 : decode code 548 = .ok (.aload_n 1, 1) := by decide +kernel
theorem dL_law_549 : decode code 549 = .ok (.aload_n 0, 1) := by decide +kernel
theorem dL_law_550 : decode code 550 = .ok (.iload 4, 2) := by decide +kernel
theorem dL_law_552 : decode code 552 = .ok (.iconst 1, 1) := by decide +kernel
theorem dL_law_553 : decode code 553 = .ok (.iadd, 1) := by decide +kernel
theorem dL_law_554 : decode code 554 = .ok (.iaload, 1) := by decide +kernel
theorem dL_law_555 : decode code 555 = .ok (.invokevirtual 65, 3) := by decide +kernel
theorem dL_law_558 : decode code 558 = .ok (.pop, 1) := by decide +kernel
theorem dL_law_559 : decode code 559 = .ok (.aload_n 2, 1) := by decide +kernel
theorem dL_law_560 : decode code 560 = .ok (.aload_n 0, 1) := by decide +kernel
theorem dL_law_561 : decode code 561 = .ok (.iload 4, 2) := by decide +kernel
theorem dL_law_563 : decode code 563 = .ok (.iconst 1, 1) := by decide +kernel
theorem dL_law_564 : decode code 564 = .ok (.iadd, 1) := by decide +kernel
theorem dL_law_565 : decode code 565 = .ok (.iaload, 1) := by decide +kernel
theorem dL_law_566 : decode code 566 = .ok (.invokevirtual 68, 3) := by decide +kernel
theorem dL_law_569 : decode code 569 = .ok (.pop, 1) := by decide +kernel
theorem dL_law_570 : decode code 570 = .ok (.goto 681, 3) := by decide +kernel
theorem dL_law_659 : decode code 659 = .ok (.aload_n 1, 1) := by decide +kernel
theorem dL_law_660 : decode code 660 = .ok (.invokevirtual 79, 3) := by decide +kernel
theorem dL_law_663 : decode code 663 = .ok (.pop, 1) := by decide +kernel
theorem dL_law_664 : decode code 664 = .ok (.aload_n 2, 1) := by decide +kernel
theorem dL_law_665 : decode code 665 = .ok (.invokevirtual 82, 3) := by decide +kernel
theorem dL_law_668 : decode code 668 = .ok (.pop, 1) := by decide +kernel
theorem dL_law_669 : decode code 669 = .ok (.goto 582, 3) := by decide +kernel
theorem dL_law_710 : decode code 710 = .ok (.aload_n 1, 1) := by decide +kernel
theorem dL_law_711 : decode code 711 = .ok (.aload_n 0, 1) := by decide +kernel
theorem dL_law_712 : decode code 712 = .ok (.iload 4, 2) := by decide +kernel
theorem dL_law_714 : decode code 714 = .ok (.iconst 1, 1) := by decide +kernel
theorem dL_law_715 : decode code 715 = .ok (.iadd, 1) := by decide +kernel
theorem dL_law_716 : decode code 716 = .ok (.iaload, 1) := by decide +kernel
theorem dL_law_717 : decode code 717 = .ok (.invokevirtual 92, 3) := by decide +kernel
theorem dL_law_720 : decode code 720 = .ok (.pop, 1) := by decide +kernel
theorem dL_law_721 : decode code 721 = .ok (.aload_n 2, 1) := by decide +kernel
theorem dL_law_722 : decode code 722 = .ok (.aload_n 0, 1) := by decide +kernel
theorem dL_law_723 : decode code 723 = .ok (.iload 4, 2) := by decide +kernel
theorem dL_law_725 : decode code 725 = .ok (.iconst 1, 1) := by decide +kernel
theorem dL_law_726 : decode code 726 = .ok (.iadd, 1) := by decide +kernel
theorem dL_law_727 : decode code 727 = .ok (.iaload, 1) := by decide +kernel
theorem dL_law_728 : decode code 728 = .ok (.invokevirtual 95, 3) := by decide +kernel
theorem dL_law_731 : decode code 731 = .ok (.pop, 1) := by decide +kernel
theorem dL_law_732 : decode code 732 = .ok (.goto 519, 3) := by decide +kernel
theorem dL_law_809 : decode code 809 = .ok (.aload_n 1, 1) := by decide +kernel
theorem dL_law_810 : decode code 810 = .ok (.aload_n 0, 1) := by decide +kernel
theorem dL_law_811 : decode code 811 = .ok (.iload 4, 2) := by decide +kernel
theorem dL_law_813 : decode code 813 = .ok (.iconst 1, 1) := by decide +kernel
theorem dL_law_814 : decode code 814 = .ok (.iadd, 1) := by decide +kernel
theorem dL_law_815 : decode code 815 = .ok (.iaload, 1) := by decide +kernel
theorem dL_law_816 : decode code 816 = .ok (.aload_n 0, 1) := by decide +kernel
theorem dL_law_817 : decode code 817 = .ok (.iload 4, 2) := by decide +kernel
theorem dL_law_819 : decode code 819 = .ok (.iconst 2, 1) := by decide +kernel
theorem dL_law_820 : decode code 820 = .ok (.iadd, 1) := by decide +kernel
theorem dL_law_821 : decode code 821 = .ok (.iaload, 1) := by decide +kernel
theorem dL_law_822 : decode code 822 = .ok (.aload_n 0, 1) := by decide +kernel
theorem dL_law_823 : decode code 823 = .ok (.iload 4, 2) := by decide +kernel
theorem dL_law_825 : decode code 825 = .ok (.iconst 3, 1) := by decide +kernel
theorem dL_law_826 : decode code 826 = .ok (.iadd, 1) := by decide +kernel
theorem dL_law_827 : decode code 827 = .ok (.iaload, 1) := by decide +kernel
theorem dL_law_828 : decode code 828 = .ok (.ifCond .eq 7, 3) := by decide +kernel
theorem dL_law_831 : decode code 831 = .ok (.iconst 1, 1) := by decide +kernel
theorem dL_law_832 : decode code 832 = .ok (.goto 4, 3) := by decide +kernel
theorem dL_law_835 : decode code 835 = .ok (.iconst 0, 1) := by decide +kernel
theorem dL_law_836 : decode code 836 = .ok (.invokevirtual 105, 3) := by decide +kernel
theorem dL_law_839 : decode code 839 = .ok (.pop, 1) := by decide +kernel
theorem dL_law_840 : decode code 840 = .ok (.aload_n 2, 1) := by decide +kernel
theorem dL_law_841 : decode code 841 = .ok (.aload_n 0, 1) := by decide +kernel
theorem dL_law_842 : decode code 842 = .ok (.iload 4, 2) := by decide +kernel
theorem dL_law_844 : decode code 844 = .ok (.iconst 1, 1) := by decide +kernel
theorem dL_law_845 : decode code 845 = .ok (.iadd, 1) := by decide +kernel
theorem dL_law_846 : decode code 846 = .ok (.iaload, 1) := by decide +kernel
theorem dL_law_847 : decode code 847 = .ok (.aload_n 0, 1) := by decide +kernel
theorem dL_law_848 : decode code 848 = .ok (.iload 4, 2) := by decide +kernel
theorem dL_law_850 : decode code 850 = .ok (.iconst 2, 1) := by decide +kernel
theorem dL_law_851 : decode code 851 = .ok (.iadd, 1) := by decide +kernel
theorem dL_law_852 : decode code 852 = .ok (.iaload, 1) := by decide +kernel
theorem dL_law_853 : decode code 853 = .ok (.aload_n 0, 1) := by decide +kernel
theorem dL_law_854 : decode code 854 = .ok (.iload 4, 2) := by decide +kernel
theorem dL_law_856 : decode code 856 = .ok (.iconst 3, 1) := by decide +kernel
theorem dL_law_857 : decode code 857 = .ok (.iadd, 1) := by decide +kernel
theorem dL_law_858 : decode code 858 = .ok (.iaload, 1) := by decide +kernel
theorem dL_law_859 : decode code 859 = .ok (.ifCond .eq 7, 3) := by decide +kernel
theorem dL_law_862 : decode code 862 = .ok (.iconst 1, 1) := by decide +kernel
theorem dL_law_863 : decode code 863 = .ok (.goto 4, 3) := by decide +kernel
theorem dL_law_866 : decode code 866 = .ok (.iconst 0, 1) := by decide +kernel
theorem dL_law_867 : decode code 867 = .ok (.invokevirtual 109, 3) := by decide +kernel
theorem dL_law_870 : decode code 870 = .ok (.pop, 1) := by decide +kernel
theorem dL_law_871 : decode code 871 = .ok (.goto 380, 3) := by decide +kernel
theorem dL_law_924 : decode code 924 = .ok (.aload_n 1, 1) := by decide +kernel
theorem dL_law_925 : decode code 925 = .ok (.aload_n 0, 1) := by decide +kernel
theorem dL_law_926 : decode code 926 = .ok (.iload 4, 2) := by decide +kernel
theorem dL_law_928 : decode code 928 = .ok (.iconst 1, 1) := by decide +kernel
theorem dL_law_929 : decode code 929 = .ok (.iadd, 1) := by decide +kernel
theorem dL_law_930 : decode code 930 = .ok (.iaload, 1) := by decide +kernel
theorem dL_law_931 : decode code 931 = .ok (.aload_n 0, 1) := by decide +kernel
theorem dL_law_932 : decode code 932 = .ok (.iload 4, 2) := by decide +kernel
theorem dL_law_934 : decode code 934 = .ok (.iconst 2, 1) := by decide +kernel
theorem dL_law_935 : decode code 935 = .ok (.iadd, 1) := by decide +kernel
theorem dL_law_936 : decode code 936 = .ok (.iaload, 1) := by decide +kernel
theorem dL_law_937 : decode code 937 = .ok (.invokevirtual 118, 3) := by decide +kernel
theorem dL_law_940 : decode code 940 = .ok (.pop, 1) := by decide +kernel
theorem dL_law_941 : decode code 941 = .ok (.aload_n 2, 1) := by decide +kernel
theorem dL_law_942 : decode code 942 = .ok (.aload_n 0, 1) := by decide +kernel
theorem dL_law_943 : decode code 943 = .ok (.iload 4, 2) := by decide +kernel
theorem dL_law_945 : decode code 945 = .ok (.iconst 1, 1) := by decide +kernel
theorem dL_law_946 : decode code 946 = .ok (.iadd, 1) := by decide +kernel
theorem dL_law_947 : decode code 947 = .ok (.iaload, 1) := by decide +kernel
theorem dL_law_948 : decode code 948 = .ok (.aload_n 0, 1) := by decide +kernel
theorem dL_law_949 : decode code 949 = .ok (.iload 4, 2) := by decide +kernel
theorem dL_law_951 : decode code 951 = .ok (.iconst 2, 1) := by decide +kernel
theorem dL_law_952 : decode code 952 = .ok (.iadd, 1) := by decide +kernel
theorem dL_law_953 : decode code 953 = .ok (.iaload, 1) := by decide +kernel
theorem dL_law_954 : decode code 954 = .ok (.invokevirtual 121, 3) := by decide +kernel
theorem dL_law_957 : decode code 957 = .ok (.pop, 1) := by decide +kernel
theorem dL_law_958 : decode code 958 = .ok (.goto 293, 3) := by decide +kernel
theorem dL_law_1038 : decode code 1038 = .ok (.aload_n 1, 1) := by decide +kernel
theorem dL_law_1039 : decode code 1039 = .ok (.aload_n 0, 1) := by decide +kernel
theorem dL_law_1040 : decode code 1040 = .ok (.iload 4, 2) := by decide +kernel
theorem dL_law_1042 : decode code 1042 = .ok (.iconst 1, 1) := by decide +kernel
theorem dL_law_1043 : decode code 1043 = .ok (.iadd, 1) := by decide +kernel
theorem dL_law_1044 : decode code 1044 = .ok (.iaload, 1) := by decide +kernel
theorem dL_law_1045 : decode code 1045 = .ok (.aload_n 0, 1) := by decide +kernel
theorem dL_law_1046 : decode code 1046 = .ok (.iload 4, 2) := by decide +kernel
theorem dL_law_1048 : decode code 1048 = .ok (.iconst 2, 1) := by decide +kernel
theorem dL_law_1049 : decode code 1049 = .ok (.iadd, 1) := by decide +kernel
theorem dL_law_1050 : decode code 1050 = .ok (.iaload, 1) := by decide +kernel
theorem dL_law_1051 : decode code 1051 = .ok (.aload_n 0, 1) := by decide +kernel
theorem dL_law_1052 : decode code 1052 = .ok (.iload 4, 2) := by decide +kernel
theorem dL_law_1054 : decode code 1054 = .ok (.iconst 3, 1) := by decide +kernel
theorem dL_law_1055 : decode code 1055 = .ok (.iadd, 1) := by decide +kernel
theorem dL_law_1056 : decode code 1056 = .ok (.iaload, 1) := by decide +kernel
theorem dL_law_1057 : decode code 1057 = .ok (.invokevirtual 132, 3) := by decide +kernel
theorem dL_law_1060 : decode code 1060 = .ok (.pop, 1) := by decide +kernel
theorem dL_law_1061 : decode code 1061 = .ok (.aload_n 2, 1) := by decide +kernel
theorem dL_law_1062 : decode code 1062 = .ok (.aload_n 0, 1) := by decide +kernel
theorem dL_law_1063 : decode code 1063 = .ok (.iload 4, 2) := by decide +kernel
theorem dL_law_1065 : decode code 1065 = .ok (.iconst 1, 1) := by decide +kernel
theorem dL_law_1066 : decode code 1066 = .ok (.iadd, 1) := by decide +kernel
theorem dL_law_1067 : decode code 1067 = .ok (.iaload, 1) := by decide +kernel
theorem dL_law_1068 : decode code 1068 = .ok (.aload_n 0, 1) := by decide +kernel
theorem dL_law_1069 : decode code 1069 = .ok (.iload 4, 2) := by decide +kernel
theorem dL_law_1071 : decode code 1071 = .ok (.iconst 2, 1) := by decide +kernel
theorem dL_law_1072 : decode code 1072 = .ok (.iadd, 1) := by decide +kernel
theorem dL_law_1073 : decode code 1073 = .ok (.iaload, 1) := by decide +kernel
theorem dL_law_1074 : decode code 1074 = .ok (.aload_n 0, 1) := by decide +kernel
theorem dL_law_1075 : decode code 1075 = .ok (.iload 4, 2) := by decide +kernel
theorem dL_law_1077 : decode code 1077 = .ok (.iconst 3, 1) := by decide +kernel
theorem dL_law_1078 : decode code 1078 = .ok (.iadd, 1) := by decide +kernel
theorem dL_law_1079 : decode code 1079 = .ok (.iaload, 1) := by decide +kernel
theorem dL_law_1080 : decode code 1080 = .ok (.invokevirtual 135, 3) := by decide +kernel
theorem dL_law_1083 : decode code 1083 = .ok (.pop, 1) := by decide +kernel
theorem dL_law_1084 : decode code 1084 = .ok (.goto 167, 3) := by decide +kernel
theorem dL_law_1173 : decode code 1173 = .ok (.aload_n 1, 1) := by decide +kernel
theorem dL_law_1174 : decode code 1174 = .ok (.aload_n 0, 1) := by decide +kernel
theorem dL_law_1175 : decode code 1175 = .ok (.iload 4, 2) := by decide +kernel
theorem dL_law_1177 : decode code 1177 = .ok (.iconst 1, 1) := by decide +kernel
theorem dL_law_1178 : decode code 1178 = .ok (.iadd, 1) := by decide +kernel
theorem dL_law_1179 : decode code 1179 = .ok (.iaload, 1) := by decide +kernel
theorem dL_law_1180 : decode code 1180 = .ok (.aload_n 0, 1) := by decide +kernel
theorem dL_law_1181 : decode code 1181 = .ok (.iload 4, 2) := by decide +kernel
theorem dL_law_1183 : decode code 1183 = .ok (.iconst 2, 1) := by decide +kernel
theorem dL_law_1184 : decode code 1184 = .ok (.iadd, 1) := by decide +kernel
theorem dL_law_1185 : decode code 1185 = .ok (.iaload, 1) := by decide +kernel
theorem dL_law_1186 : decode code 1186 = .ok (.ifCond .eq 7, 3) := by decide +kernel
theorem dL_law_1189 : decode code 1189 = .ok (.iconst 1, 1) := by decide +kernel
theorem dL_law_1190 : decode code 1190 = .ok (.goto 4, 3) := by decide +kernel
theorem dL_law_1193 : decode code 1193 = .ok (.iconst 0, 1) := by decide +kernel
theorem dL_law_1194 : decode code 1194 = .ok (.invokevirtual 144, 3) := by decide +kernel
theorem dL_law_1197 : decode code 1197 = .ok (.pop, 1) := by decide +kernel
theorem dL_law_1198 : decode code 1198 = .ok (.aload_n 2, 1) := by decide +kernel
theorem dL_law_1199 : decode code 1199 = .ok (.aload_n 0, 1) := by decide +kernel
theorem dL_law_1200 : decode code 1200 = .ok (.iload 4, 2) := by decide +kernel
theorem dL_law_1202 : decode code 1202 = .ok (.iconst 1, 1) := by decide +kernel
theorem dL_law_1203 : decode code 1203 = .ok (.iadd, 1) := by decide +kernel
theorem dL_law_1204 : decode code 1204 = .ok (.iaload, 1) := by decide +kernel
theorem dL_law_1205 : decode code 1205 = .ok (.aload_n 0, 1) := by decide +kernel
theorem dL_law_1206 : decode code 1206 = .ok (.iload 4, 2) := by decide +kernel
theorem dL_law_1208 : decode code 1208 = .ok (.iconst 2, 1) := by decide +kernel
theorem dL_law_1209 : decode code 1209 = .ok (.iadd, 1) := by decide +kernel
theorem dL_law_1210 : decode code 1210 = .ok (.iaload, 1) := by decide +kernel
theorem dL_law_1211 : decode code 1211 = .ok (.ifCond .eq 7, 3) := by decide +kernel
theorem dL_law_1214 : decode code 1214 = .ok (.iconst 1, 1) := by decide +kernel
theorem dL_law_1215 : decode code 1215 = .ok (.goto 4, 3) := by decide +kernel
theorem dL_law_1218 : decode code 1218 = .ok (.iconst 0, 1) := by decide +kernel
theorem dL_law_1219 : decode code 1219 = .ok (.invokevirtual 148, 3) := by decide +kernel
theorem dL_law_1222 : decode code 1222 = .ok (.pop, 1) := by decide +kernel
theorem dL_law_1223 : decode code 1223 = .ok (.goto 28, 3) := by decide +kernel
theorem mL_26 : Cond.methodLink RL 26 yX10_town ∈ gw := List.mem_filter.mpr ⟨List.mem_append_right _ (by decide +kernel), by decide +kernel⟩
theorem mL_30 : Cond.methodLink RL 30 yX11_town ∈ gw := List.mem_filter.mpr ⟨List.mem_append_right _ (by decide +kernel), by decide +kernel⟩
theorem mL_40 : Cond.methodLink RL 40 yX10_person ∈ gw := List.mem_filter.mpr ⟨List.mem_append_right _ (by decide +kernel), by decide +kernel⟩
theorem mL_43 : Cond.methodLink RL 43 yX11_person ∈ gw := List.mem_filter.mpr ⟨List.mem_append_right _ (by decide +kernel), by decide +kernel⟩
theorem mL_53 : Cond.methodLink RL 53 yX10_cost ∈ gw := List.mem_filter.mpr ⟨List.mem_append_right _ (by decide +kernel), by decide +kernel⟩
theorem mL_56 : Cond.methodLink RL 56 yX11_cost ∈ gw := List.mem_filter.mpr ⟨List.mem_append_right _ (by decide +kernel), by decide +kernel⟩
theorem mL_65 : Cond.methodLink RL 65 yX10_build ∈ gw := List.mem_filter.mpr ⟨List.mem_append_right _ (by decide +kernel), by decide +kernel⟩
theorem mL_68 : Cond.methodLink RL 68 yX11_build ∈ gw := List.mem_filter.mpr ⟨List.mem_append_right _ (by decide +kernel), by decide +kernel⟩
theorem mL_79 : Cond.methodLink RL 79 yX10_night ∈ gw := List.mem_filter.mpr ⟨List.mem_append_right _ (by decide +kernel), by decide +kernel⟩
theorem mL_82 : Cond.methodLink RL 82 yX11_night ∈ gw := List.mem_filter.mpr ⟨List.mem_append_right _ (by decide +kernel), by decide +kernel⟩
theorem mL_92 : Cond.methodLink RL 92 yX10_alone ∈ gw := List.mem_filter.mpr ⟨List.mem_append_right _ (by decide +kernel), by decide +kernel⟩
theorem mL_95 : Cond.methodLink RL 95 yX11_alone ∈ gw := List.mem_filter.mpr ⟨List.mem_append_right _ (by decide +kernel), by decide +kernel⟩
theorem mL_105 : Cond.methodLink RL 105 yX10_see ∈ gw := List.mem_filter.mpr ⟨List.mem_append_right _ (by decide +kernel), by decide +kernel⟩
theorem mL_109 : Cond.methodLink RL 109 yX11_see ∈ gw := List.mem_filter.mpr ⟨List.mem_append_right _ (by decide +kernel), by decide +kernel⟩
theorem mL_118 : Cond.methodLink RL 118 yX10_post ∈ gw := List.mem_filter.mpr ⟨List.mem_append_right _ (by decide +kernel), by decide +kernel⟩
theorem mL_121 : Cond.methodLink RL 121 yX11_post ∈ gw := List.mem_filter.mpr ⟨List.mem_append_right _ (by decide +kernel), by decide +kernel⟩
theorem mL_132 : Cond.methodLink RL 132 yX10_live ∈ gw := List.mem_filter.mpr ⟨List.mem_append_right _ (by decide +kernel), by decide +kernel⟩
theorem mL_135 : Cond.methodLink RL 135 yX11_live ∈ gw := List.mem_filter.mpr ⟨List.mem_append_right _ (by decide +kernel), by decide +kernel⟩
theorem mL_144 : Cond.methodLink RL 144 yX10_mark ∈ gw := List.mem_filter.mpr ⟨List.mem_append_right _ (by decide +kernel), by decide +kernel⟩
theorem mL_148 : Cond.methodLink RL 148 yX11_mark ∈ gw := List.mem_filter.mpr ⟨List.mem_append_right _ (by decide +kernel), by decide +kernel⟩
set_option maxHeartbeats 4000000 in
set_option maxRecDepth 16384 in
theorem lc_town {p : Program} {l : Launch} {e : Env} {s : State} {m : MethodId} {below : List Frame} {meth : Method} {c : Code} {g : va_G} {aC : Nat → ClassId} {aM ad : Nat → Nat} {A : Nat → Prop} {b L k : Nat} {xs : Nat → Int32} {i : Int32} {Q : State → Prop} {cells slots : Nat} {oa : Nat} {fo : Nat → Int64} {h : Ph} {H : Heap} {locs : List Loc} (F : Fx p s m #[Value.ref b] c code 7 RL g aC aM A) (had : pm_ad aM ad) (hX : va_X b L xs s s.heap) (hbl : b < s.heap.size) (hbA : ¬ A b) (hi : i.toInt = (k : Int)) (hk7 : k + 7 ≤ L) (hL : L ≤ 3584) (hcs : cells + 2 ≤ 601024 ∧ slots + 12 ≤ 7293034) (hk : kJ h) (hP : va_P g vwCl (wO aC ad oa fo h) H) (hD : va_D A (wO aC ad oa fo h)) (hS : va_S A s.heap H locs) (ls : Array Slot) (hl : lv_has ls 7 [(4, .int i), (3, .ref oa), (2, .ref (ad 172)), (1, .ref (ad 0)), (0, .ref b)]) (K : ∀ (h' : Ph) (fo' : Nat → Int64) (H1 : Heap) (locs1 : List Loc) (ls' : Array Slot), lv_has ls' 7 [(4, .int i), (3, .ref oa), (2, .ref (ad 172)), (1, .ref (ad 0)), (0, .ref b)] → kJ h' → va_P g vwCl (wO aC ad oa fo' h') H1 → va_D A (wO aC ad oa fo' h') → va_S A s.heap H1 locs1 → W p l e room_1 s m #[Value.ref b] below meth c H1 locs1 (cells + 1) (slots + 6) Q (F0 m 1251 ls' [])) : W p l e room_1 s m #[Value.ref b] below meth c H locs cells slots Q (F0 m 323 ls []) := by
  obtain ⟨hx, hb, hml, hown, hts, hK, hA, hM, hM2⟩ := id F
  refine lv_aload_n hx hb dL_law_323 rfl (lv_at hl 3 rfl) ?_
  obtain ⟨v1, v2, h1, h2, e1, i1, e2, k2, eqv⟩ := pr_town  hk
  refine law_call 0 (me' := mtX10[38]) (As := []) (rest := []) F had ⟨by omega, by omega⟩ hP hD hS hl.1 rfl e1 (by decide) rfl (by decide) (obj_x hk.1) rfl rfl rfl mL_26 (by decide +kernel) rfl (Nat.le_of_ble_eq_true rfl) dL_law_324 rfl rfl (fun r1 H locs q1 hP hD hS => ?_)
  refine lv_pop hx hb dL_law_327 rfl ?_
  refine lv_aload_n hx hb dL_law_328 rfl (lv_at hl 2 rfl) ?_
  refine law_call 0 (me' := mtX11[113]) (As := []) (rest := []) F had ⟨by omega, by omega⟩ hP hD hS hl.1 rfl e2 (by decide) rfl (by decide) (obj_m i1) rfl rfl rfl mL_30 (by decide +kernel) rfl (Nat.le_of_ble_eq_true rfl) dL_law_329 rfl rfl (fun r2 H locs q2 hP hD hS => ?_)
  refine lv_pop hx hb dL_law_332 rfl ?_
  refine lv_goto (tgt := 1251) hx hb dL_law_333 (by decide) ?_
  refine W.widen (k := cells + 1) (n := slots + 6) (by omega) (by omega) ?_
  exact K _ _ _ _ _ hl k2 hP hD hS
set_option maxHeartbeats 4000000 in
set_option maxRecDepth 16384 in
theorem lc_person {p : Program} {l : Launch} {e : Env} {s : State} {m : MethodId} {below : List Frame} {meth : Method} {c : Code} {g : va_G} {aC : Nat → ClassId} {aM ad : Nat → Nat} {A : Nat → Prop} {b L k : Nat} {xs : Nat → Int32} {i : Int32} {Q : State → Prop} {cells slots : Nat} {oa : Nat} {fo : Nat → Int64} {h : Ph} {H : Heap} {locs : List Loc} (F : Fx p s m #[Value.ref b] c code 7 RL g aC aM A) (had : pm_ad aM ad) (hX : va_X b L xs s s.heap) (hbl : b < s.heap.size) (hbA : ¬ A b) (hi : i.toInt = (k : Int)) (hk7 : k + 7 ≤ L) (hL : L ≤ 3584) (hcs : cells + 2 ≤ 601024 ∧ slots + 12 ≤ 7293034) (hk : kJ h) (hP : va_P g vwCl (wO aC ad oa fo h) H) (hD : va_D A (wO aC ad oa fo h)) (hS : va_S A s.heap H locs) (ls : Array Slot) (hl : lv_has ls 7 [(4, .int i), (3, .ref oa), (2, .ref (ad 172)), (1, .ref (ad 0)), (0, .ref b)]) (K : ∀ (h' : Ph) (fo' : Nat → Int64) (H1 : Heap) (locs1 : List Loc) (ls' : Array Slot), lv_has ls' 7 [(4, .int i), (3, .ref oa), (2, .ref (ad 172)), (1, .ref (ad 0)), (0, .ref b)] → kJ h' → va_P g vwCl (wO aC ad oa fo' h') H1 → va_D A (wO aC ad oa fo' h') → va_S A s.heap H1 locs1 → W p l e room_1 s m #[Value.ref b] below meth c H1 locs1 (cells + 1) (slots + 6) Q (F0 m 1251 ls' [])) : W p l e room_1 s m #[Value.ref b] below meth c H locs cells slots Q (F0 m 386 ls []) := by
  obtain ⟨hx, hb, hml, hown, hts, hK, hA, hM, hM2⟩ := id F
  refine lv_aload_n hx hb dL_law_386 rfl (lv_at hl 3 rfl) ?_
  refine lv_aload_n hx hb dL_law_387 rfl (lv_at hl 4 rfl) ?_
  refine lv_iload hx hb dL_law_388 (lv_at hl 0 rfl) ?_
  refine lv_iconst (v := 1) hx hb dL_law_390 (by decide) ?_
  refine lv_iadd hx hb dL_law_391 ?_
  refine va_sld hx hb hX hbl hbA hS (law_in 1 hi hk7 hL (by decide) (by decide)) dL_law_392 ?_
  refine lv_topi (fun y1 hy1 => ?_)
  refine lv_aload_n hx hb dL_law_393 rfl (lv_at hl 4 rfl) ?_
  refine lv_iload hx hb dL_law_394 (lv_at hl 0 rfl) ?_
  refine lv_iconst (v := 2) hx hb dL_law_396 (by decide) ?_
  refine lv_iadd hx hb dL_law_397 ?_
  refine va_sld hx hb hX hbl hbA hS (law_in 2 hi hk7 hL (by decide) (by decide)) dL_law_398 ?_
  refine lv_topi (fun y2 hy2 => ?_)
  obtain ⟨v1, v2, h1, h2, e1, i1, e2, k2, eqv⟩ := pr_person y1 y2 hk
  refine law_call 2 (me' := mtX10[27]) (As := [.int y1, .int y2]) (rest := []) F had ⟨by omega, by omega⟩ hP hD hS hl.1 rfl e1 (by decide) rfl (by decide) (obj_x hk.1) rfl rfl rfl mL_40 (by decide +kernel) rfl (Nat.le_of_ble_eq_true rfl) dL_law_399 rfl rfl (fun r1 H locs q1 hP hD hS => ?_)
  refine lv_pop hx hb dL_law_402 rfl ?_
  refine lv_aload_n hx hb dL_law_403 rfl (lv_at hl 2 rfl) ?_
  refine lv_aload_n hx hb dL_law_404 rfl (lv_at hl 4 rfl) ?_
  refine lv_iload hx hb dL_law_405 (lv_at hl 0 rfl) ?_
  refine lv_iconst (v := 1) hx hb dL_law_407 (by decide) ?_
  refine lv_iadd hx hb dL_law_408 ?_
  refine va_sld hx hb hX hbl hbA hS (law_in 1 hi hk7 hL (by decide) (by decide)) dL_law_409 ?_
  refine lv_topi (fun y3 hy3 => ?_)
  refine lv_aload_n hx hb dL_law_410 rfl (lv_at hl 4 rfl) ?_
  refine lv_iload hx hb dL_law_411 (lv_at hl 0 rfl) ?_
  refine lv_iconst (v := 2) hx hb dL_law_413 (by decide) ?_
  refine lv_iadd hx hb dL_law_414 ?_
  refine va_sld hx hb hX hbl hbA hS (law_in 2 hi hk7 hL (by decide) (by decide)) dL_law_415 ?_
  refine lv_topi (fun y4 hy4 => ?_)
  obtain rfl : y3 = y1 := (hy3.trans hy1.symm)
  obtain rfl : y4 = y2 := (hy4.trans hy2.symm)
  refine law_call 2 (me' := mtX11[80]) (As := [.int y3, .int y4]) (rest := []) F had ⟨by omega, by omega⟩ hP hD hS hl.1 rfl e2 (by decide) rfl (by decide) (obj_m i1) rfl rfl rfl mL_43 (by decide +kernel) rfl (Nat.le_of_ble_eq_true rfl) dL_law_416 rfl rfl (fun r2 H locs q2 hP hD hS => ?_)
  refine lv_pop hx hb dL_law_419 rfl ?_
  refine lv_goto (tgt := 1251) hx hb dL_law_420 (by decide) ?_
  refine W.widen (k := cells + 1) (n := slots + 6) (by omega) (by omega) ?_
  exact K _ _ _ _ _ hl k2 hP hD hS
set_option maxHeartbeats 4000000 in
set_option maxRecDepth 16384 in
theorem lc_cost {p : Program} {l : Launch} {e : Env} {s : State} {m : MethodId} {below : List Frame} {meth : Method} {c : Code} {g : va_G} {aC : Nat → ClassId} {aM ad : Nat → Nat} {A : Nat → Prop} {b L k : Nat} {xs : Nat → Int32} {i : Int32} {Q : State → Prop} {cells slots : Nat} {oa : Nat} {fo : Nat → Int64} {h : Ph} {H : Heap} {locs : List Loc} (F : Fx p s m #[Value.ref b] c code 7 RL g aC aM A) (had : pm_ad aM ad) (hX : va_X b L xs s s.heap) (hbl : b < s.heap.size) (hbA : ¬ A b) (hi : i.toInt = (k : Int)) (hk7 : k + 7 ≤ L) (hL : L ≤ 3584) (hcs : cells + 2 ≤ 601024 ∧ slots + 12 ≤ 7293034) (hk : kJ h) (hP : va_P g vwCl (wO aC ad oa fo h) H) (hD : va_D A (wO aC ad oa fo h)) (hS : va_S A s.heap H locs) (ls : Array Slot) (hl : lv_has ls 7 [(4, .int i), (3, .ref oa), (2, .ref (ad 172)), (1, .ref (ad 0)), (0, .ref b)]) (K : ∀ (h' : Ph) (fo' : Nat → Int64) (H1 : Heap) (locs1 : List Loc) (ls' : Array Slot), lv_has ls' 7 [(4, .int i), (3, .ref oa), (2, .ref (ad 172)), (1, .ref (ad 0)), (0, .ref b)] → kJ h' → va_P g vwCl (wO aC ad oa fo' h') H1 → va_D A (wO aC ad oa fo' h') → va_S A s.heap H1 locs1 → W p l e room_1 s m #[Value.ref b] below meth c H1 locs1 (cells + 1) (slots + 6) Q (F0 m 1251 ls' [])) : W p l e room_1 s m #[Value.ref b] below meth c H locs cells slots Q (F0 m 473 ls []) := by
  obtain ⟨hx, hb, hml, hown, hts, hK, hA, hM, hM2⟩ := id F
  refine lv_aload_n hx hb dL_law_473 rfl (lv_at hl 3 rfl) ?_
  refine lv_aload_n hx hb dL_law_474 rfl (lv_at hl 4 rfl) ?_
  refine lv_iload hx hb dL_law_475 (lv_at hl 0 rfl) ?_
  refine lv_iconst (v := 1) hx hb dL_law_477 (by decide) ?_
  refine lv_iadd hx hb dL_law_478 ?_
  refine va_sld hx hb hX hbl hbA hS (law_in 1 hi hk7 hL (by decide) (by decide)) dL_law_479 ?_
  refine lv_topi (fun y1 hy1 => ?_)
  refine lv_aload_n hx hb dL_law_480 rfl (lv_at hl 4 rfl) ?_
  refine lv_iload hx hb dL_law_481 (lv_at hl 0 rfl) ?_
  refine lv_iconst (v := 2) hx hb dL_law_483 (by decide) ?_
  refine lv_iadd hx hb dL_law_484 ?_
  refine va_sld hx hb hX hbl hbA hS (law_in 2 hi hk7 hL (by decide) (by decide)) dL_law_485 ?_
  refine lv_topi (fun y2 hy2 => ?_)
  obtain ⟨v1, v2, h1, h2, e1, i1, e2, k2, eqv⟩ := pr_cost y1 y2 hk
  refine law_call 2 (me' := mtX10[6]) (As := [.int y1, .int y2]) (rest := []) F had ⟨by omega, by omega⟩ hP hD hS hl.1 rfl e1 (by decide) rfl (by decide) (obj_x hk.1) rfl rfl rfl mL_53 (by decide +kernel) rfl (Nat.le_of_ble_eq_true rfl) dL_law_486 rfl rfl (fun r1 H locs q1 hP hD hS => ?_)
  refine lv_pop hx hb dL_law_489 rfl ?_
  refine lv_aload_n hx hb dL_law_490 rfl (lv_at hl 2 rfl) ?_
  refine lv_aload_n hx hb dL_law_491 rfl (lv_at hl 4 rfl) ?_
  refine lv_iload hx hb dL_law_492 (lv_at hl 0 rfl) ?_
  refine lv_iconst (v := 1) hx hb dL_law_494 (by decide) ?_
  refine lv_iadd hx hb dL_law_495 ?_
  refine va_sld hx hb hX hbl hbA hS (law_in 1 hi hk7 hL (by decide) (by decide)) dL_law_496 ?_
  refine lv_topi (fun y3 hy3 => ?_)
  refine lv_aload_n hx hb dL_law_497 rfl (lv_at hl 4 rfl) ?_
  refine lv_iload hx hb dL_law_498 (lv_at hl 0 rfl) ?_
  refine lv_iconst (v := 2) hx hb dL_law_500 (by decide) ?_
  refine lv_iadd hx hb dL_law_501 ?_
  refine va_sld hx hb hX hbl hbA hS (law_in 2 hi hk7 hL (by decide) (by decide)) dL_law_502 ?_
  refine lv_topi (fun y4 hy4 => ?_)
  obtain rfl : y3 = y1 := (hy3.trans hy1.symm)
  obtain rfl : y4 = y2 := (hy4.trans hy2.symm)
  refine law_call 2 (me' := mtX11[19]) (As := [.int y3, .int y4]) (rest := []) F had ⟨by omega, by omega⟩ hP hD hS hl.1 rfl e2 (by decide) rfl (by decide) (obj_m i1) rfl rfl rfl mL_56 (by decide +kernel) rfl (Nat.le_of_ble_eq_true rfl) dL_law_503 rfl rfl (fun r2 H locs q2 hP hD hS => ?_)
  refine lv_pop hx hb dL_law_506 rfl ?_
  refine lv_goto (tgt := 1251) hx hb dL_law_507 (by decide) ?_
  refine W.widen (k := cells + 1) (n := slots + 6) (by omega) (by omega) ?_
  exact K _ _ _ _ _ hl k2 hP hD hS
set_option maxHeartbeats 4000000 in
set_option maxRecDepth 16384 in
theorem lc_build {p : Program} {l : Launch} {e : Env} {s : State} {m : MethodId} {below : List Frame} {meth : Method} {c : Code} {g : va_G} {aC : Nat → ClassId} {aM ad : Nat → Nat} {A : Nat → Prop} {b L k : Nat} {xs : Nat → Int32} {i : Int32} {Q : State → Prop} {cells slots : Nat} {oa : Nat} {fo : Nat → Int64} {h : Ph} {H : Heap} {locs : List Loc} (F : Fx p s m #[Value.ref b] c code 7 RL g aC aM A) (had : pm_ad aM ad) (hX : va_X b L xs s s.heap) (hbl : b < s.heap.size) (hbA : ¬ A b) (hi : i.toInt = (k : Int)) (hk7 : k + 7 ≤ L) (hL : L ≤ 3584) (hcs : cells + 2 ≤ 601024 ∧ slots + 12 ≤ 7293034) (hk : kJ h) (hP : va_P g vwCl (wO aC ad oa fo h) H) (hD : va_D A (wO aC ad oa fo h)) (hS : va_S A s.heap H locs) (ls : Array Slot) (hl : lv_has ls 7 [(4, .int i), (3, .ref oa), (2, .ref (ad 172)), (1, .ref (ad 0)), (0, .ref b)]) (K : ∀ (h' : Ph) (fo' : Nat → Int64) (H1 : Heap) (locs1 : List Loc) (ls' : Array Slot), lv_has ls' 7 [(4, .int i), (3, .ref oa), (2, .ref (ad 172)), (1, .ref (ad 0)), (0, .ref b)] → kJ h' → va_P g vwCl (wO aC ad oa fo' h') H1 → va_D A (wO aC ad oa fo' h') → va_S A s.heap H1 locs1 → W p l e room_1 s m #[Value.ref b] below meth c H1 locs1 (cells + 1) (slots + 6) Q (F0 m 1251 ls' [])) : W p l e room_1 s m #[Value.ref b] below meth c H locs cells slots Q (F0 m 548 ls []) := by
  obtain ⟨hx, hb, hml, hown, hts, hK, hA, hM, hM2⟩ := id F
  refine lv_aload_n hx hb dL_law_548 rfl (lv_at hl 3 rfl) ?_
  refine lv_aload_n hx hb dL_law_549 rfl (lv_at hl 4 rfl) ?_
  refine lv_iload hx hb dL_law_550 (lv_at hl 0 rfl) ?_
  refine lv_iconst (v := 1) hx hb dL_law_552 (by decide) ?_
  refine lv_iadd hx hb dL_law_553 ?_
  refine va_sld hx hb hX hbl hbA hS (law_in 1 hi hk7 hL (by decide) (by decide)) dL_law_554 ?_
  refine lv_topi (fun y1 hy1 => ?_)
  obtain ⟨v1, v2, h1, h2, e1, i1, e2, k2, eqv⟩ := pr_build y1 hk
  refine law_call 1 (me' := mtX10[4]) (As := [.int y1]) (rest := []) F had ⟨by omega, by omega⟩ hP hD hS hl.1 rfl e1 (by decide) rfl (by decide) (obj_x hk.1) rfl rfl rfl mL_65 (by decide +kernel) rfl (Nat.le_of_ble_eq_true rfl) dL_law_555 rfl rfl (fun r1 H locs q1 hP hD hS => ?_)
  refine lv_pop hx hb dL_law_558 rfl ?_
  refine lv_aload_n hx hb dL_law_559 rfl (lv_at hl 2 rfl) ?_
  refine lv_aload_n hx hb dL_law_560 rfl (lv_at hl 4 rfl) ?_
  refine lv_iload hx hb dL_law_561 (lv_at hl 0 rfl) ?_
  refine lv_iconst (v := 1) hx hb dL_law_563 (by decide) ?_
  refine lv_iadd hx hb dL_law_564 ?_
  refine va_sld hx hb hX hbl hbA hS (law_in 1 hi hk7 hL (by decide) (by decide)) dL_law_565 ?_
  refine lv_topi (fun y2 hy2 => ?_)
  obtain rfl : y2 = y1 := (hy2.trans hy1.symm)
  refine law_call 1 (me' := mtX11[7]) (As := [.int y2]) (rest := []) F had ⟨by omega, by omega⟩ hP hD hS hl.1 rfl e2 (by decide) rfl (by decide) (obj_m i1) rfl rfl rfl mL_68 (by decide +kernel) rfl (Nat.le_of_ble_eq_true rfl) dL_law_566 rfl rfl (fun r2 H locs q2 hP hD hS => ?_)
  refine lv_pop hx hb dL_law_569 rfl ?_
  refine lv_goto (tgt := 1251) hx hb dL_law_570 (by decide) ?_
  refine W.widen (k := cells + 1) (n := slots + 6) (by omega) (by omega) ?_
  exact K _ _ _ _ _ hl k2 hP hD hS
set_option maxHeartbeats 4000000 in
set_option maxRecDepth 16384 in
theorem lc_night {p : Program} {l : Launch} {e : Env} {s : State} {m : MethodId} {below : List Frame} {meth : Method} {c : Code} {g : va_G} {aC : Nat → ClassId} {aM ad : Nat → Nat} {A : Nat → Prop} {b L k : Nat} {xs : Nat → Int32} {i : Int32} {Q : State → Prop} {cells slots : Nat} {oa : Nat} {fo : Nat → Int64} {h : Ph} {H : Heap} {locs : List Loc} (F : Fx p s m #[Value.ref b] c code 7 RL g aC aM A) (had : pm_ad aM ad) (hX : va_X b L xs s s.heap) (hbl : b < s.heap.size) (hbA : ¬ A b) (hi : i.toInt = (k : Int)) (hk7 : k + 7 ≤ L) (hL : L ≤ 3584) (hcs : cells + 2 ≤ 601024 ∧ slots + 12 ≤ 7293034) (hk : kJ h) (hP : va_P g vwCl (wO aC ad oa fo h) H) (hD : va_D A (wO aC ad oa fo h)) (hS : va_S A s.heap H locs) (ls : Array Slot) (hl : lv_has ls 7 [(4, .int i), (3, .ref oa), (2, .ref (ad 172)), (1, .ref (ad 0)), (0, .ref b)]) (K : ∀ (h' : Ph) (fo' : Nat → Int64) (H1 : Heap) (locs1 : List Loc) (ls' : Array Slot), lv_has ls' 7 [(4, .int i), (3, .ref oa), (2, .ref (ad 172)), (1, .ref (ad 0)), (0, .ref b)] → kJ h' → va_P g vwCl (wO aC ad oa fo' h') H1 → va_D A (wO aC ad oa fo' h') → va_S A s.heap H1 locs1 → W p l e room_1 s m #[Value.ref b] below meth c H1 locs1 (cells + 1) (slots + 6) Q (F0 m 1251 ls' [])) : W p l e room_1 s m #[Value.ref b] below meth c H locs cells slots Q (F0 m 659 ls []) := by
  obtain ⟨hx, hb, hml, hown, hts, hK, hA, hM, hM2⟩ := id F
  refine lv_aload_n hx hb dL_law_659 rfl (lv_at hl 3 rfl) ?_
  obtain ⟨v1, v2, h1, h2, e1, i1, e2, k2, eqv⟩ := pr_night  hk
  refine law_call 0 (me' := mtX10[23]) (As := []) (rest := []) F had ⟨by omega, by omega⟩ hP hD hS hl.1 rfl e1 (by decide) rfl (by decide) (obj_x hk.1) rfl rfl rfl mL_79 (by decide +kernel) rfl (Nat.le_of_ble_eq_true rfl) dL_law_660 rfl rfl (fun r1 H locs q1 hP hD hS => ?_)
  refine lv_pop hx hb dL_law_663 rfl ?_
  refine lv_aload_n hx hb dL_law_664 rfl (lv_at hl 2 rfl) ?_
  refine law_call 0 (me' := mtX11[75]) (As := []) (rest := []) F had ⟨by omega, by omega⟩ hP hD hS hl.1 rfl e2 (by decide) rfl (by decide) (obj_m i1) rfl rfl rfl mL_82 (by decide +kernel) rfl (Nat.le_of_ble_eq_true rfl) dL_law_665 rfl rfl (fun r2 H locs q2 hP hD hS => ?_)
  refine lv_pop hx hb dL_law_668 rfl ?_
  refine lv_goto (tgt := 1251) hx hb dL_law_669 (by decide) ?_
  refine W.widen (k := cells + 1) (n := slots + 6) (by omega) (by omega) ?_
  exact K _ _ _ _ _ hl k2 hP hD hS
set_option maxHeartbeats 4000000 in
set_option maxRecDepth 16384 in
theorem lc_alone {p : Program} {l : Launch} {e : Env} {s : State} {m : MethodId} {below : List Frame} {meth : Method} {c : Code} {g : va_G} {aC : Nat → ClassId} {aM ad : Nat → Nat} {A : Nat → Prop} {b L k : Nat} {xs : Nat → Int32} {i : Int32} {Q : State → Prop} {cells slots : Nat} {oa : Nat} {fo : Nat → Int64} {h : Ph} {H : Heap} {locs : List Loc} (F : Fx p s m #[Value.ref b] c code 7 RL g aC aM A) (had : pm_ad aM ad) (hX : va_X b L xs s s.heap) (hbl : b < s.heap.size) (hbA : ¬ A b) (hi : i.toInt = (k : Int)) (hk7 : k + 7 ≤ L) (hL : L ≤ 3584) (hcs : cells + 2 ≤ 601024 ∧ slots + 12 ≤ 7293034) (hk : kJ h) (hP : va_P g vwCl (wO aC ad oa fo h) H) (hD : va_D A (wO aC ad oa fo h)) (hS : va_S A s.heap H locs) (ls : Array Slot) (hl : lv_has ls 7 [(4, .int i), (3, .ref oa), (2, .ref (ad 172)), (1, .ref (ad 0)), (0, .ref b)]) (K : ∀ (h' : Ph) (fo' : Nat → Int64) (H1 : Heap) (locs1 : List Loc) (ls' : Array Slot), lv_has ls' 7 [(4, .int i), (3, .ref oa), (2, .ref (ad 172)), (1, .ref (ad 0)), (0, .ref b)] → kJ h' → va_P g vwCl (wO aC ad oa fo' h') H1 → va_D A (wO aC ad oa fo' h') → va_S A s.heap H1 locs1 → W p l e room_1 s m #[Value.ref b] below meth c H1 locs1 (cells + 1) (slots + 6) Q (F0 m 1251 ls' [])) : W p l e room_1 s m #[Value.ref b] below meth c H locs cells slots Q (F0 m 710 ls []) := by
  obtain ⟨hx, hb, hml, hown, hts, hK, hA, hM, hM2⟩ := id F
  refine lv_aload_n hx hb dL_law_710 rfl (lv_at hl 3 rfl) ?_
  refine lv_aload_n hx hb dL_law_711 rfl (lv_at hl 4 rfl) ?_
  refine lv_iload hx hb dL_law_712 (lv_at hl 0 rfl) ?_
  refine lv_iconst (v := 1) hx hb dL_law_714 (by decide) ?_
  refine lv_iadd hx hb dL_law_715 ?_
  refine va_sld hx hb hX hbl hbA hS (law_in 1 hi hk7 hL (by decide) (by decide)) dL_law_716 ?_
  refine lv_topi (fun y1 hy1 => ?_)
  obtain ⟨v1, v2, h1, h2, e1, i1, e2, k2, eqv⟩ := pr_alone y1 hk
  refine law_call 1 (me' := mtX10[2]) (As := [.int y1]) (rest := []) F had ⟨by omega, by omega⟩ hP hD hS hl.1 rfl e1 (by decide) rfl (by decide) (obj_x hk.1) rfl rfl rfl mL_92 (by decide +kernel) rfl (Nat.le_of_ble_eq_true rfl) dL_law_717 rfl rfl (fun r1 H locs q1 hP hD hS => ?_)
  refine lv_pop hx hb dL_law_720 rfl ?_
  refine lv_aload_n hx hb dL_law_721 rfl (lv_at hl 2 rfl) ?_
  refine lv_aload_n hx hb dL_law_722 rfl (lv_at hl 4 rfl) ?_
  refine lv_iload hx hb dL_law_723 (lv_at hl 0 rfl) ?_
  refine lv_iconst (v := 1) hx hb dL_law_725 (by decide) ?_
  refine lv_iadd hx hb dL_law_726 ?_
  refine va_sld hx hb hX hbl hbA hS (law_in 1 hi hk7 hL (by decide) (by decide)) dL_law_727 ?_
  refine lv_topi (fun y2 hy2 => ?_)
  obtain rfl : y2 = y1 := (hy2.trans hy1.symm)
  refine law_call 1 (me' := mtX11[2]) (As := [.int y2]) (rest := []) F had ⟨by omega, by omega⟩ hP hD hS hl.1 rfl e2 (by decide) rfl (by decide) (obj_m i1) rfl rfl rfl mL_95 (by decide +kernel) rfl (Nat.le_of_ble_eq_true rfl) dL_law_728 rfl rfl (fun r2 H locs q2 hP hD hS => ?_)
  refine lv_pop hx hb dL_law_731 rfl ?_
  refine lv_goto (tgt := 1251) hx hb dL_law_732 (by decide) ?_
  refine W.widen (k := cells + 1) (n := slots + 6) (by omega) (by omega) ?_
  exact K _ _ _ _ _ hl k2 hP hD hS
set_option maxHeartbeats 4000000 in
set_option maxRecDepth 16384 in
theorem lc_see {p : Program} {l : Launch} {e : Env} {s : State} {m : MethodId} {below : List Frame} {meth : Method} {c : Code} {g : va_G} {aC : Nat → ClassId} {aM ad : Nat → Nat} {A : Nat → Prop} {b L k : Nat} {xs : Nat → Int32} {i : Int32} {Q : State → Prop} {cells slots : Nat} {oa : Nat} {fo : Nat → Int64} {h : Ph} {H : Heap} {locs : List Loc} (F : Fx p s m #[Value.ref b] c code 7 RL g aC aM A) (had : pm_ad aM ad) (hX : va_X b L xs s s.heap) (hbl : b < s.heap.size) (hbA : ¬ A b) (hi : i.toInt = (k : Int)) (hk7 : k + 7 ≤ L) (hL : L ≤ 3584) (hcs : cells + 2 ≤ 601024 ∧ slots + 12 ≤ 7293034) (hk : kJ h) (hP : va_P g vwCl (wO aC ad oa fo h) H) (hD : va_D A (wO aC ad oa fo h)) (hS : va_S A s.heap H locs) (ls : Array Slot) (hl : lv_has ls 7 [(4, .int i), (3, .ref oa), (2, .ref (ad 172)), (1, .ref (ad 0)), (0, .ref b)]) (K : ∀ (h' : Ph) (fo' : Nat → Int64) (H1 : Heap) (locs1 : List Loc) (ls' : Array Slot), lv_has ls' 7 [(4, .int i), (3, .ref oa), (2, .ref (ad 172)), (1, .ref (ad 0)), (0, .ref b)] → kJ h' → va_P g vwCl (wO aC ad oa fo' h') H1 → va_D A (wO aC ad oa fo' h') → va_S A s.heap H1 locs1 → W p l e room_1 s m #[Value.ref b] below meth c H1 locs1 (cells + 1) (slots + 6) Q (F0 m 1251 ls' [])) : W p l e room_1 s m #[Value.ref b] below meth c H locs cells slots Q (F0 m 809 ls []) := by
  obtain ⟨hx, hb, hml, hown, hts, hK, hA, hM, hM2⟩ := id F
  refine lv_aload_n hx hb dL_law_809 rfl (lv_at hl 3 rfl) ?_
  refine lv_aload_n hx hb dL_law_810 rfl (lv_at hl 4 rfl) ?_
  refine lv_iload hx hb dL_law_811 (lv_at hl 0 rfl) ?_
  refine lv_iconst (v := 1) hx hb dL_law_813 (by decide) ?_
  refine lv_iadd hx hb dL_law_814 ?_
  refine va_sld hx hb hX hbl hbA hS (law_in 1 hi hk7 hL (by decide) (by decide)) dL_law_815 ?_
  refine lv_topi (fun y1 hy1 => ?_)
  refine lv_aload_n hx hb dL_law_816 rfl (lv_at hl 4 rfl) ?_
  refine lv_iload hx hb dL_law_817 (lv_at hl 0 rfl) ?_
  refine lv_iconst (v := 2) hx hb dL_law_819 (by decide) ?_
  refine lv_iadd hx hb dL_law_820 ?_
  refine va_sld hx hb hX hbl hbA hS (law_in 2 hi hk7 hL (by decide) (by decide)) dL_law_821 ?_
  refine lv_topi (fun y2 hy2 => ?_)
  refine lv_aload_n hx hb dL_law_822 rfl (lv_at hl 4 rfl) ?_
  refine lv_iload hx hb dL_law_823 (lv_at hl 0 rfl) ?_
  refine lv_iconst (v := 3) hx hb dL_law_825 (by decide) ?_
  refine lv_iadd hx hb dL_law_826 ?_
  refine va_sld hx hb hX hbl hbA hS (law_in 3 hi hk7 hL (by decide) (by decide)) dL_law_827 ?_
  refine law_bool hx hb dL_law_828 dL_law_831 dL_law_832 dL_law_835 (fun y3 by3 => ?_)
  obtain ⟨v1, v2, h1, h2, e1, i1, e2, k2⟩ := pr_see y1 y2 y3 (b01 by3) hk
  refine law_call 3 (me' := mtX10[33]) (As := [.int y1, .int y2, .int y3]) (rest := []) F had ⟨by omega, by omega⟩ hP hD hS hl.1 rfl e1 (by decide) rfl (by decide) (obj_x hk.1) rfl rfl rfl mL_105 (by decide +kernel) rfl (Nat.le_of_ble_eq_true rfl) dL_law_836 rfl rfl (fun r1 H locs q1 hP hD hS => ?_)
  refine lv_pop hx hb dL_law_839 rfl ?_
  refine lv_aload_n hx hb dL_law_840 rfl (lv_at hl 2 rfl) ?_
  refine lv_aload_n hx hb dL_law_841 rfl (lv_at hl 4 rfl) ?_
  refine lv_iload hx hb dL_law_842 (lv_at hl 0 rfl) ?_
  refine lv_iconst (v := 1) hx hb dL_law_844 (by decide) ?_
  refine lv_iadd hx hb dL_law_845 ?_
  refine va_sld hx hb hX hbl hbA hS (law_in 1 hi hk7 hL (by decide) (by decide)) dL_law_846 ?_
  refine lv_topi (fun y4 hy4 => ?_)
  refine lv_aload_n hx hb dL_law_847 rfl (lv_at hl 4 rfl) ?_
  refine lv_iload hx hb dL_law_848 (lv_at hl 0 rfl) ?_
  refine lv_iconst (v := 2) hx hb dL_law_850 (by decide) ?_
  refine lv_iadd hx hb dL_law_851 ?_
  refine va_sld hx hb hX hbl hbA hS (law_in 2 hi hk7 hL (by decide) (by decide)) dL_law_852 ?_
  refine lv_topi (fun y5 hy5 => ?_)
  refine lv_aload_n hx hb dL_law_853 rfl (lv_at hl 4 rfl) ?_
  refine lv_iload hx hb dL_law_854 (lv_at hl 0 rfl) ?_
  refine lv_iconst (v := 3) hx hb dL_law_856 (by decide) ?_
  refine lv_iadd hx hb dL_law_857 ?_
  refine va_sld hx hb hX hbl hbA hS (law_in 3 hi hk7 hL (by decide) (by decide)) dL_law_858 ?_
  refine law_bool hx hb dL_law_859 dL_law_862 dL_law_863 dL_law_866 (fun y6 by6 => ?_)
  obtain rfl : y4 = y1 := (hy4.trans hy1.symm)
  obtain rfl : y5 = y2 := (hy5.trans hy2.symm)
  obtain rfl : y6 = y3 := (by6.trans by3.symm)
  refine law_call 3 (me' := mtX11[100]) (As := [.int y4, .int y5, .int y6]) (rest := []) F had ⟨by omega, by omega⟩ hP hD hS hl.1 rfl e2 (by decide) rfl (by decide) (obj_m i1) rfl rfl rfl mL_109 (by decide +kernel) rfl (Nat.le_of_ble_eq_true rfl) dL_law_867 rfl rfl (fun r2 H locs q2 hP hD hS => ?_)
  refine lv_pop hx hb dL_law_870 rfl ?_
  refine lv_goto (tgt := 1251) hx hb dL_law_871 (by decide) ?_
  refine W.widen (k := cells + 1) (n := slots + 6) (by omega) (by omega) ?_
  exact K _ _ _ _ _ hl k2 hP hD hS
set_option maxHeartbeats 4000000 in
set_option maxRecDepth 16384 in
theorem lc_post {p : Program} {l : Launch} {e : Env} {s : State} {m : MethodId} {below : List Frame} {meth : Method} {c : Code} {g : va_G} {aC : Nat → ClassId} {aM ad : Nat → Nat} {A : Nat → Prop} {b L k : Nat} {xs : Nat → Int32} {i : Int32} {Q : State → Prop} {cells slots : Nat} {oa : Nat} {fo : Nat → Int64} {h : Ph} {H : Heap} {locs : List Loc} (F : Fx p s m #[Value.ref b] c code 7 RL g aC aM A) (had : pm_ad aM ad) (hX : va_X b L xs s s.heap) (hbl : b < s.heap.size) (hbA : ¬ A b) (hi : i.toInt = (k : Int)) (hk7 : k + 7 ≤ L) (hL : L ≤ 3584) (hcs : cells + 2 ≤ 601024 ∧ slots + 12 ≤ 7293034) (hk : kJ h) (hP : va_P g vwCl (wO aC ad oa fo h) H) (hD : va_D A (wO aC ad oa fo h)) (hS : va_S A s.heap H locs) (ls : Array Slot) (hl : lv_has ls 7 [(4, .int i), (3, .ref oa), (2, .ref (ad 172)), (1, .ref (ad 0)), (0, .ref b)]) (K : ∀ (h' : Ph) (fo' : Nat → Int64) (H1 : Heap) (locs1 : List Loc) (ls' : Array Slot), lv_has ls' 7 [(4, .int i), (3, .ref oa), (2, .ref (ad 172)), (1, .ref (ad 0)), (0, .ref b)] → kJ h' → va_P g vwCl (wO aC ad oa fo' h') H1 → va_D A (wO aC ad oa fo' h') → va_S A s.heap H1 locs1 → W p l e room_1 s m #[Value.ref b] below meth c H1 locs1 (cells + 1) (slots + 6) Q (F0 m 1251 ls' [])) : W p l e room_1 s m #[Value.ref b] below meth c H locs cells slots Q (F0 m 924 ls []) := by
  obtain ⟨hx, hb, hml, hown, hts, hK, hA, hM, hM2⟩ := id F
  refine lv_aload_n hx hb dL_law_924 rfl (lv_at hl 3 rfl) ?_
  refine lv_aload_n hx hb dL_law_925 rfl (lv_at hl 4 rfl) ?_
  refine lv_iload hx hb dL_law_926 (lv_at hl 0 rfl) ?_
  refine lv_iconst (v := 1) hx hb dL_law_928 (by decide) ?_
  refine lv_iadd hx hb dL_law_929 ?_
  refine va_sld hx hb hX hbl hbA hS (law_in 1 hi hk7 hL (by decide) (by decide)) dL_law_930 ?_
  refine lv_topi (fun y1 hy1 => ?_)
  refine lv_aload_n hx hb dL_law_931 rfl (lv_at hl 4 rfl) ?_
  refine lv_iload hx hb dL_law_932 (lv_at hl 0 rfl) ?_
  refine lv_iconst (v := 2) hx hb dL_law_934 (by decide) ?_
  refine lv_iadd hx hb dL_law_935 ?_
  refine va_sld hx hb hX hbl hbA hS (law_in 2 hi hk7 hL (by decide) (by decide)) dL_law_936 ?_
  refine lv_topi (fun y2 hy2 => ?_)
  obtain ⟨v1, v2, h1, h2, e1, i1, e2, k2, eqv⟩ := pr_post y1 y2 hk
  refine law_call 2 (me' := mtX10[29]) (As := [.int y1, .int y2]) (rest := []) F had ⟨by omega, by omega⟩ hP hD hS hl.1 rfl e1 (by decide) rfl (by decide) (obj_x hk.1) rfl rfl rfl mL_118 (by decide +kernel) rfl (Nat.le_of_ble_eq_true rfl) dL_law_937 rfl rfl (fun r1 H locs q1 hP hD hS => ?_)
  refine lv_pop hx hb dL_law_940 rfl ?_
  refine lv_aload_n hx hb dL_law_941 rfl (lv_at hl 2 rfl) ?_
  refine lv_aload_n hx hb dL_law_942 rfl (lv_at hl 4 rfl) ?_
  refine lv_iload hx hb dL_law_943 (lv_at hl 0 rfl) ?_
  refine lv_iconst (v := 1) hx hb dL_law_945 (by decide) ?_
  refine lv_iadd hx hb dL_law_946 ?_
  refine va_sld hx hb hX hbl hbA hS (law_in 1 hi hk7 hL (by decide) (by decide)) dL_law_947 ?_
  refine lv_topi (fun y3 hy3 => ?_)
  refine lv_aload_n hx hb dL_law_948 rfl (lv_at hl 4 rfl) ?_
  refine lv_iload hx hb dL_law_949 (lv_at hl 0 rfl) ?_
  refine lv_iconst (v := 2) hx hb dL_law_951 (by decide) ?_
  refine lv_iadd hx hb dL_law_952 ?_
  refine va_sld hx hb hX hbl hbA hS (law_in 2 hi hk7 hL (by decide) (by decide)) dL_law_953 ?_
  refine lv_topi (fun y4 hy4 => ?_)
  obtain rfl : y3 = y1 := (hy3.trans hy1.symm)
  obtain rfl : y4 = y2 := (hy4.trans hy2.symm)
  refine law_call 2 (me' := mtX11[83]) (As := [.int y3, .int y4]) (rest := []) F had ⟨by omega, by omega⟩ hP hD hS hl.1 rfl e2 (by decide) rfl (by decide) (obj_m i1) rfl rfl rfl mL_121 (by decide +kernel) rfl (Nat.le_of_ble_eq_true rfl) dL_law_954 rfl rfl (fun r2 H locs q2 hP hD hS => ?_)
  refine lv_pop hx hb dL_law_957 rfl ?_
  refine lv_goto (tgt := 1251) hx hb dL_law_958 (by decide) ?_
  refine W.widen (k := cells + 1) (n := slots + 6) (by omega) (by omega) ?_
  exact K _ _ _ _ _ hl k2 hP hD hS
set_option maxHeartbeats 4000000 in
set_option maxRecDepth 16384 in
theorem lc_live {p : Program} {l : Launch} {e : Env} {s : State} {m : MethodId} {below : List Frame} {meth : Method} {c : Code} {g : va_G} {aC : Nat → ClassId} {aM ad : Nat → Nat} {A : Nat → Prop} {b L k : Nat} {xs : Nat → Int32} {i : Int32} {Q : State → Prop} {cells slots : Nat} {oa : Nat} {fo : Nat → Int64} {h : Ph} {H : Heap} {locs : List Loc} (F : Fx p s m #[Value.ref b] c code 7 RL g aC aM A) (had : pm_ad aM ad) (hX : va_X b L xs s s.heap) (hbl : b < s.heap.size) (hbA : ¬ A b) (hi : i.toInt = (k : Int)) (hk7 : k + 7 ≤ L) (hL : L ≤ 3584) (hcs : cells + 2 ≤ 601024 ∧ slots + 12 ≤ 7293034) (hk : kJ h) (hP : va_P g vwCl (wO aC ad oa fo h) H) (hD : va_D A (wO aC ad oa fo h)) (hS : va_S A s.heap H locs) (ls : Array Slot) (hl : lv_has ls 7 [(4, .int i), (3, .ref oa), (2, .ref (ad 172)), (1, .ref (ad 0)), (0, .ref b)]) (K : ∀ (h' : Ph) (fo' : Nat → Int64) (H1 : Heap) (locs1 : List Loc) (ls' : Array Slot), lv_has ls' 7 [(4, .int i), (3, .ref oa), (2, .ref (ad 172)), (1, .ref (ad 0)), (0, .ref b)] → kJ h' → va_P g vwCl (wO aC ad oa fo' h') H1 → va_D A (wO aC ad oa fo' h') → va_S A s.heap H1 locs1 → W p l e room_1 s m #[Value.ref b] below meth c H1 locs1 (cells + 1) (slots + 6) Q (F0 m 1251 ls' [])) : W p l e room_1 s m #[Value.ref b] below meth c H locs cells slots Q (F0 m 1038 ls []) := by
  obtain ⟨hx, hb, hml, hown, hts, hK, hA, hM, hM2⟩ := id F
  refine lv_aload_n hx hb dL_law_1038 rfl (lv_at hl 3 rfl) ?_
  refine lv_aload_n hx hb dL_law_1039 rfl (lv_at hl 4 rfl) ?_
  refine lv_iload hx hb dL_law_1040 (lv_at hl 0 rfl) ?_
  refine lv_iconst (v := 1) hx hb dL_law_1042 (by decide) ?_
  refine lv_iadd hx hb dL_law_1043 ?_
  refine va_sld hx hb hX hbl hbA hS (law_in 1 hi hk7 hL (by decide) (by decide)) dL_law_1044 ?_
  refine lv_topi (fun y1 hy1 => ?_)
  refine lv_aload_n hx hb dL_law_1045 rfl (lv_at hl 4 rfl) ?_
  refine lv_iload hx hb dL_law_1046 (lv_at hl 0 rfl) ?_
  refine lv_iconst (v := 2) hx hb dL_law_1048 (by decide) ?_
  refine lv_iadd hx hb dL_law_1049 ?_
  refine va_sld hx hb hX hbl hbA hS (law_in 2 hi hk7 hL (by decide) (by decide)) dL_law_1050 ?_
  refine lv_topi (fun y2 hy2 => ?_)
  refine lv_aload_n hx hb dL_law_1051 rfl (lv_at hl 4 rfl) ?_
  refine lv_iload hx hb dL_law_1052 (lv_at hl 0 rfl) ?_
  refine lv_iconst (v := 3) hx hb dL_law_1054 (by decide) ?_
  refine lv_iadd hx hb dL_law_1055 ?_
  refine va_sld hx hb hX hbl hbA hS (law_in 3 hi hk7 hL (by decide) (by decide)) dL_law_1056 ?_
  refine lv_topi (fun y3 hy3 => ?_)
  obtain ⟨v1, v2, h1, h2, e1, i1, e2, k2, eqv⟩ := pr_live y1 y2 y3 hk
  refine law_call 3 (me' := mtX10[21]) (As := [.int y1, .int y2, .int y3]) (rest := []) F had ⟨by omega, by omega⟩ hP hD hS hl.1 rfl e1 (by decide) rfl (by decide) (obj_x hk.1) rfl rfl rfl mL_132 (by decide +kernel) rfl (Nat.le_of_ble_eq_true rfl) dL_law_1057 rfl rfl (fun r1 H locs q1 hP hD hS => ?_)
  refine lv_pop hx hb dL_law_1060 rfl ?_
  refine lv_aload_n hx hb dL_law_1061 rfl (lv_at hl 2 rfl) ?_
  refine lv_aload_n hx hb dL_law_1062 rfl (lv_at hl 4 rfl) ?_
  refine lv_iload hx hb dL_law_1063 (lv_at hl 0 rfl) ?_
  refine lv_iconst (v := 1) hx hb dL_law_1065 (by decide) ?_
  refine lv_iadd hx hb dL_law_1066 ?_
  refine va_sld hx hb hX hbl hbA hS (law_in 1 hi hk7 hL (by decide) (by decide)) dL_law_1067 ?_
  refine lv_topi (fun y4 hy4 => ?_)
  refine lv_aload_n hx hb dL_law_1068 rfl (lv_at hl 4 rfl) ?_
  refine lv_iload hx hb dL_law_1069 (lv_at hl 0 rfl) ?_
  refine lv_iconst (v := 2) hx hb dL_law_1071 (by decide) ?_
  refine lv_iadd hx hb dL_law_1072 ?_
  refine va_sld hx hb hX hbl hbA hS (law_in 2 hi hk7 hL (by decide) (by decide)) dL_law_1073 ?_
  refine lv_topi (fun y5 hy5 => ?_)
  refine lv_aload_n hx hb dL_law_1074 rfl (lv_at hl 4 rfl) ?_
  refine lv_iload hx hb dL_law_1075 (lv_at hl 0 rfl) ?_
  refine lv_iconst (v := 3) hx hb dL_law_1077 (by decide) ?_
  refine lv_iadd hx hb dL_law_1078 ?_
  refine va_sld hx hb hX hbl hbA hS (law_in 3 hi hk7 hL (by decide) (by decide)) dL_law_1079 ?_
  refine lv_topi (fun y6 hy6 => ?_)
  obtain rfl : y4 = y1 := (hy4.trans hy1.symm)
  obtain rfl : y5 = y2 := (hy5.trans hy2.symm)
  obtain rfl : y6 = y3 := (hy6.trans hy3.symm)
  refine law_call 3 (me' := mtX11[60]) (As := [.int y4, .int y5, .int y6]) (rest := []) F had ⟨by omega, by omega⟩ hP hD hS hl.1 rfl e2 (by decide) rfl (by decide) (obj_m i1) rfl rfl rfl mL_135 (by decide +kernel) rfl (Nat.le_of_ble_eq_true rfl) dL_law_1080 rfl rfl (fun r2 H locs q2 hP hD hS => ?_)
  refine lv_pop hx hb dL_law_1083 rfl ?_
  refine lv_goto (tgt := 1251) hx hb dL_law_1084 (by decide) ?_
  refine W.widen (k := cells + 1) (n := slots + 6) (by omega) (by omega) ?_
  exact K _ _ _ _ _ hl k2 hP hD hS
set_option maxHeartbeats 4000000 in
set_option maxRecDepth 16384 in
theorem lc_mark {p : Program} {l : Launch} {e : Env} {s : State} {m : MethodId} {below : List Frame} {meth : Method} {c : Code} {g : va_G} {aC : Nat → ClassId} {aM ad : Nat → Nat} {A : Nat → Prop} {b L k : Nat} {xs : Nat → Int32} {i : Int32} {Q : State → Prop} {cells slots : Nat} {oa : Nat} {fo : Nat → Int64} {h : Ph} {H : Heap} {locs : List Loc} (F : Fx p s m #[Value.ref b] c code 7 RL g aC aM A) (had : pm_ad aM ad) (hX : va_X b L xs s s.heap) (hbl : b < s.heap.size) (hbA : ¬ A b) (hi : i.toInt = (k : Int)) (hk7 : k + 7 ≤ L) (hL : L ≤ 3584) (hcs : cells + 2 ≤ 601024 ∧ slots + 12 ≤ 7293034) (hk : kJ h) (hP : va_P g vwCl (wO aC ad oa fo h) H) (hD : va_D A (wO aC ad oa fo h)) (hS : va_S A s.heap H locs) (ls : Array Slot) (hl : lv_has ls 7 [(4, .int i), (3, .ref oa), (2, .ref (ad 172)), (1, .ref (ad 0)), (0, .ref b)]) (K : ∀ (h' : Ph) (fo' : Nat → Int64) (H1 : Heap) (locs1 : List Loc) (ls' : Array Slot), lv_has ls' 7 [(4, .int i), (3, .ref oa), (2, .ref (ad 172)), (1, .ref (ad 0)), (0, .ref b)] → kJ h' → va_P g vwCl (wO aC ad oa fo' h') H1 → va_D A (wO aC ad oa fo' h') → va_S A s.heap H1 locs1 → W p l e room_1 s m #[Value.ref b] below meth c H1 locs1 (cells + 1) (slots + 6) Q (F0 m 1251 ls' [])) : W p l e room_1 s m #[Value.ref b] below meth c H locs cells slots Q (F0 m 1173 ls []) := by
  obtain ⟨hx, hb, hml, hown, hts, hK, hA, hM, hM2⟩ := id F
  refine lv_aload_n hx hb dL_law_1173 rfl (lv_at hl 3 rfl) ?_
  refine lv_aload_n hx hb dL_law_1174 rfl (lv_at hl 4 rfl) ?_
  refine lv_iload hx hb dL_law_1175 (lv_at hl 0 rfl) ?_
  refine lv_iconst (v := 1) hx hb dL_law_1177 (by decide) ?_
  refine lv_iadd hx hb dL_law_1178 ?_
  refine va_sld hx hb hX hbl hbA hS (law_in 1 hi hk7 hL (by decide) (by decide)) dL_law_1179 ?_
  refine lv_topi (fun y1 hy1 => ?_)
  refine lv_aload_n hx hb dL_law_1180 rfl (lv_at hl 4 rfl) ?_
  refine lv_iload hx hb dL_law_1181 (lv_at hl 0 rfl) ?_
  refine lv_iconst (v := 2) hx hb dL_law_1183 (by decide) ?_
  refine lv_iadd hx hb dL_law_1184 ?_
  refine va_sld hx hb hX hbl hbA hS (law_in 2 hi hk7 hL (by decide) (by decide)) dL_law_1185 ?_
  refine law_bool hx hb dL_law_1186 dL_law_1189 dL_law_1190 dL_law_1193 (fun y2 by2 => ?_)
  obtain ⟨v1, v2, h1, h2, e1, i1, e2, k2, eqv⟩ := pr_mark y1 y2 (b01 by2) hk
  refine law_call 2 (me' := mtX10[22]) (As := [.int y1, .int y2]) (rest := []) F had ⟨by omega, by omega⟩ hP hD hS hl.1 rfl e1 (by decide) rfl (by decide) (obj_x hk.1) rfl rfl rfl mL_144 (by decide +kernel) rfl (Nat.le_of_ble_eq_true rfl) dL_law_1194 rfl rfl (fun r1 H locs q1 hP hD hS => ?_)
  refine lv_pop hx hb dL_law_1197 rfl ?_
  refine lv_aload_n hx hb dL_law_1198 rfl (lv_at hl 2 rfl) ?_
  refine lv_aload_n hx hb dL_law_1199 rfl (lv_at hl 4 rfl) ?_
  refine lv_iload hx hb dL_law_1200 (lv_at hl 0 rfl) ?_
  refine lv_iconst (v := 1) hx hb dL_law_1202 (by decide) ?_
  refine lv_iadd hx hb dL_law_1203 ?_
  refine va_sld hx hb hX hbl hbA hS (law_in 1 hi hk7 hL (by decide) (by decide)) dL_law_1204 ?_
  refine lv_topi (fun y3 hy3 => ?_)
  refine lv_aload_n hx hb dL_law_1205 rfl (lv_at hl 4 rfl) ?_
  refine lv_iload hx hb dL_law_1206 (lv_at hl 0 rfl) ?_
  refine lv_iconst (v := 2) hx hb dL_law_1208 (by decide) ?_
  refine lv_iadd hx hb dL_law_1209 ?_
  refine va_sld hx hb hX hbl hbA hS (law_in 2 hi hk7 hL (by decide) (by decide)) dL_law_1210 ?_
  refine law_bool hx hb dL_law_1211 dL_law_1214 dL_law_1215 dL_law_1218 (fun y4 by4 => ?_)
  obtain rfl : y3 = y1 := (hy3.trans hy1.symm)
  obtain rfl : y4 = y2 := (by4.trans by2.symm)
  refine law_call 2 (me' := mtX11[64]) (As := [.int y3, .int y4]) (rest := []) F had ⟨by omega, by omega⟩ hP hD hS hl.1 rfl e2 (by decide) rfl (by decide) (obj_m i1) rfl rfl rfl mL_148 (by decide +kernel) rfl (Nat.le_of_ble_eq_true rfl) dL_law_1219 rfl rfl (fun r2 H locs q2 hP hD hS => ?_)
  refine lv_pop hx hb dL_law_1222 rfl ?_
  refine lv_goto (tgt := 1251) hx hb dL_law_1223 (by decide) ?_
  refine W.widen (k := cells + 1) (n := slots + 6) (by omega) (by omega) ?_
  exact K _ _ _ _ _ hl k2 hP hD hS
