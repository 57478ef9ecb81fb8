/-! ===== the law: its words, decode rows, table ===== -/
theorem ml_RL_13 : Cond.methodLink RL 13 yX5_fountain ∈ mALL := mem_tb 247 (by decide +kernel) (by decide +kernel)
theorem wim_X5_fountain : Cond.instanceMethod yX5_fountain ∈ mALL := mem_tb 248 (by decide +kernel) (by decide +kernel)
theorem wse_X5_fountain : Cond.selects RX5 yX5_fountain yX5_fountain ∈ mALL := mem_tb 249 (by decide +kernel) (by decide +kernel)
theorem ml_RL_17 : Cond.methodLink RL 17 yX6_fountain ∈ mALL := mem_tb 777 (by decide +kernel) (by decide +kernel)
theorem wim_X6_fountain : Cond.instanceMethod yX6_fountain ∈ mALL := mem_tb 778 (by decide +kernel) (by decide +kernel)
theorem wse_X6_fountain : Cond.selects RX6 yX6_fountain yX6_fountain ∈ mALL := mem_tb 779 (by decide +kernel) (by decide +kernel)
theorem ml_RL_18 : Cond.methodLink RL 18 yX5_fountainIs ∈ mALL := mem_tb 262 (by decide +kernel) (by decide +kernel)
theorem wim_X5_fountainIs : Cond.instanceMethod yX5_fountainIs ∈ mALL := mem_tb 263 (by decide +kernel) (by decide +kernel)
theorem wse_X5_fountainIs : Cond.selects RX5 yX5_fountainIs yX5_fountainIs ∈ mALL := mem_tb 264 (by decide +kernel) (by decide +kernel)
theorem ml_RL_21 : Cond.methodLink RL 21 yX6_fountainIs ∈ mALL := mem_tb 794 (by decide +kernel) (by decide +kernel)
theorem wim_X6_fountainIs : Cond.instanceMethod yX6_fountainIs ∈ mALL := mem_tb 795 (by decide +kernel) (by decide +kernel)
theorem wse_X6_fountainIs : Cond.selects RX6 yX6_fountainIs yX6_fountainIs ∈ mALL := mem_tb 796 (by decide +kernel) (by decide +kernel)
theorem ml_RL_22 : Cond.methodLink RL 22 yX5_become ∈ mALL := mem_tb 270 (by decide +kernel) (by decide +kernel)
theorem wim_X5_become : Cond.instanceMethod yX5_become ∈ mALL := mem_tb 271 (by decide +kernel) (by decide +kernel)
theorem wse_X5_become : Cond.selects RX5 yX5_become yX5_become ∈ mALL := mem_tb 272 (by decide +kernel) (by decide +kernel)
theorem ml_RL_25 : Cond.methodLink RL 25 yX6_become ∈ mALL := mem_tb 806 (by decide +kernel) (by decide +kernel)
theorem wim_X6_become : Cond.instanceMethod yX6_become ∈ mALL := mem_tb 807 (by decide +kernel) (by decide +kernel)
theorem wse_X6_become : Cond.selects RX6 yX6_become yX6_become ∈ mALL := mem_tb 808 (by decide +kernel) (by decide +kernel)
theorem ml_RL_26 : Cond.methodLink RL 26 yX5_as ∈ mALL := mem_tb 274 (by decide +kernel) (by decide +kernel)
theorem wim_X5_as : Cond.instanceMethod yX5_as ∈ mALL := mem_tb 275 (by decide +kernel) (by decide +kernel)
theorem wse_X5_as : Cond.selects RX5 yX5_as yX5_as ∈ mALL := mem_tb 276 (by decide +kernel) (by decide +kernel)
theorem ml_RL_29 : Cond.methodLink RL 29 yX6_as ∈ mALL := mem_tb 814 (by decide +kernel) (by decide +kernel)
theorem wim_X6_as : Cond.instanceMethod yX6_as ∈ mALL := mem_tb 815 (by decide +kernel) (by decide +kernel)
theorem wse_X6_as : Cond.selects RX6 yX6_as yX6_as ∈ mALL := mem_tb 816 (by decide +kernel) (by decide +kernel)
theorem ml_RL_30 : Cond.methodLink RL 30 yX5_says ∈ mALL := mem_tb 283 (by decide +kernel) (by decide +kernel)
theorem wim_X5_says : Cond.instanceMethod yX5_says ∈ mALL := mem_tb 284 (by decide +kernel) (by decide +kernel)
theorem wse_X5_says : Cond.selects RX5 yX5_says yX5_says ∈ mALL := mem_tb 285 (by decide +kernel) (by decide +kernel)
theorem ml_RL_33 : Cond.methodLink RL 33 yX6_says ∈ mALL := mem_tb 819 (by decide +kernel) (by decide +kernel)
theorem wim_X6_says : Cond.instanceMethod yX6_says ∈ mALL := mem_tb 820 (by decide +kernel) (by decide +kernel)
theorem wse_X6_says : Cond.selects RX6 yX6_says yX6_says ∈ mALL := mem_tb 821 (by decide +kernel) (by decide +kernel)
theorem ml_RL_34 : Cond.methodLink RL 34 yX5_goesOn ∈ mALL := mem_tb 318 (by decide +kernel) (by decide +kernel)
theorem wim_X5_goesOn : Cond.instanceMethod yX5_goesOn ∈ mALL := mem_tb 319 (by decide +kernel) (by decide +kernel)
theorem wse_X5_goesOn : Cond.selects RX5 yX5_goesOn yX5_goesOn ∈ mALL := mem_tb 320 (by decide +kernel) (by decide +kernel)
theorem ml_RL_37 : Cond.methodLink RL 37 yX6_goesOn ∈ mALL := mem_tb 848 (by decide +kernel) (by decide +kernel)
theorem wim_X6_goesOn : Cond.instanceMethod yX6_goesOn ∈ mALL := mem_tb 849 (by decide +kernel) (by decide +kernel)
theorem wse_X6_goesOn : Cond.selects RX6 yX6_goesOn yX6_goesOn ∈ mALL := mem_tb 850 (by decide +kernel) (by decide +kernel)
theorem ml_RL_38 : Cond.methodLink RL 38 yX5_pipe ∈ mALL := mem_tb 326 (by decide +kernel) (by decide +kernel)
theorem wim_X5_pipe : Cond.instanceMethod yX5_pipe ∈ mALL := mem_tb 327 (by decide +kernel) (by decide +kernel)
theorem wse_X5_pipe : Cond.selects RX5 yX5_pipe yX5_pipe ∈ mALL := mem_tb 328 (by decide +kernel) (by decide +kernel)
theorem ml_RL_42 : Cond.methodLink RL 42 yX6_pipe ∈ mALL := mem_tb 856 (by decide +kernel) (by decide +kernel)
theorem wim_X6_pipe : Cond.instanceMethod yX6_pipe ∈ mALL := mem_tb 857 (by decide +kernel) (by decide +kernel)
theorem wse_X6_pipe : Cond.selects RX6 yX6_pipe yX6_pipe ∈ mALL := mem_tb 858 (by decide +kernel) (by decide +kernel)
theorem ml_RL_43 : Cond.methodLink RL 43 yX5_pipeIs ∈ mALL := mem_tb 330 (by decide +kernel) (by decide +kernel)
theorem wim_X5_pipeIs : Cond.instanceMethod yX5_pipeIs ∈ mALL := mem_tb 331 (by decide +kernel) (by decide +kernel)
theorem wse_X5_pipeIs : Cond.selects RX5 yX5_pipeIs yX5_pipeIs ∈ mALL := mem_tb 332 (by decide +kernel) (by decide +kernel)
theorem ml_RL_46 : Cond.methodLink RL 46 yX6_pipeIs ∈ mALL := mem_tb 861 (by decide +kernel) (by decide +kernel)
theorem wim_X6_pipeIs : Cond.instanceMethod yX6_pipeIs ∈ mALL := mem_tb 862 (by decide +kernel) (by decide +kernel)
theorem wse_X6_pipeIs : Cond.selects RX6 yX6_pipeIs yX6_pipeIs ∈ mALL := mem_tb 863 (by decide +kernel) (by decide +kernel)
theorem ml_RL_47 : Cond.methodLink RL 47 yX5_turn ∈ mALL := mem_tb 342 (by decide +kernel) (by decide +kernel)
theorem wim_X5_turn : Cond.instanceMethod yX5_turn ∈ mALL := mem_tb 343 (by decide +kernel) (by decide +kernel)
theorem wse_X5_turn : Cond.selects RX5 yX5_turn yX5_turn ∈ mALL := mem_tb 344 (by decide +kernel) (by decide +kernel)
theorem ml_RL_50 : Cond.methodLink RL 50 yX6_turn ∈ mALL := mem_tb 877 (by decide +kernel) (by decide +kernel)
theorem wim_X6_turn : Cond.instanceMethod yX6_turn ∈ mALL := mem_tb 878 (by decide +kernel) (by decide +kernel)
theorem wse_X6_turn : Cond.selects RX6 yX6_turn yX6_turn ∈ mALL := mem_tb 879 (by decide +kernel) (by decide +kernel)
theorem ml_RL_51 : Cond.methodLink RL 51 yX5_freeze ∈ mALL := mem_tb 349 (by decide +kernel) (by decide +kernel)
theorem wim_X5_freeze : Cond.instanceMethod yX5_freeze ∈ mALL := mem_tb 350 (by decide +kernel) (by decide +kernel)
theorem wse_X5_freeze : Cond.selects RX5 yX5_freeze yX5_freeze ∈ mALL := mem_tb 351 (by decide +kernel) (by decide +kernel)
theorem ml_RL_55 : Cond.methodLink RL 55 yX6_freeze ∈ mALL := mem_tb 881 (by decide +kernel) (by decide +kernel)
theorem wim_X6_freeze : Cond.instanceMethod yX6_freeze ∈ mALL := mem_tb 882 (by decide +kernel) (by decide +kernel)
theorem wse_X6_freeze : Cond.selects RX6 yX6_freeze yX6_freeze ∈ mALL := mem_tb 883 (by decide +kernel) (by decide +kernel)
theorem ct_RL_56 : Cond.constantLong RL 56 (4294967295) ∈ mALL := mem_tb 1139 (by decide +kernel) (by decide +kernel)
theorem ml_RL_58 : Cond.methodLink RL 58 yX5_feed ∈ mALL := mem_tb 353 (by decide +kernel) (by decide +kernel)
theorem wim_X5_feed : Cond.instanceMethod yX5_feed ∈ mALL := mem_tb 354 (by decide +kernel) (by decide +kernel)
theorem wse_X5_feed : Cond.selects RX5 yX5_feed yX5_feed ∈ mALL := mem_tb 355 (by decide +kernel) (by decide +kernel)
theorem ml_RL_62 : Cond.methodLink RL 62 yX6_feed ∈ mALL := mem_tb 885 (by decide +kernel) (by decide +kernel)
theorem wim_X6_feed : Cond.instanceMethod yX6_feed ∈ mALL := mem_tb 886 (by decide +kernel) (by decide +kernel)
theorem wse_X6_feed : Cond.selects RX6 yX6_feed yX6_feed ∈ mALL := mem_tb 887 (by decide +kernel) (by decide +kernel)
theorem ml_RL_63 : Cond.methodLink RL 63 yX5_text ∈ mALL := mem_tb 357 (by decide +kernel) (by decide +kernel)
theorem wim_X5_text : Cond.instanceMethod yX5_text ∈ mALL := mem_tb 358 (by decide +kernel) (by decide +kernel)
theorem wse_X5_text : Cond.selects RX5 yX5_text yX5_text ∈ mALL := mem_tb 359 (by decide +kernel) (by decide +kernel)
theorem ml_RL_66 : Cond.methodLink RL 66 yX6_text ∈ mALL := mem_tb 890 (by decide +kernel) (by decide +kernel)
theorem wim_X6_text : Cond.instanceMethod yX6_text ∈ mALL := mem_tb 891 (by decide +kernel) (by decide +kernel)
theorem wse_X6_text : Cond.selects RX6 yX6_text yX6_text ∈ mALL := mem_tb 892 (by decide +kernel) (by decide +kernel)
theorem ml_RL_67 : Cond.methodLink RL 67 yX5_untell ∈ mALL := mem_tb 492 (by decide +kernel) (by decide +kernel)
theorem wim_X5_untell : Cond.instanceMethod yX5_untell ∈ mALL := mem_tb 493 (by decide +kernel) (by decide +kernel)
theorem wse_X5_untell : Cond.selects RX5 yX5_untell yX5_untell ∈ mALL := mem_tb 494 (by decide +kernel) (by decide +kernel)
theorem ml_RL_70 : Cond.methodLink RL 70 yX6_untell ∈ mALL := mem_tb 938 (by decide +kernel) (by decide +kernel)
theorem wim_X6_untell : Cond.instanceMethod yX6_untell ∈ mALL := mem_tb 939 (by decide +kernel) (by decide +kernel)
theorem wse_X6_untell : Cond.selects RX6 yX6_untell yX6_untell ∈ mALL := mem_tb 940 (by decide +kernel) (by decide +kernel)
theorem ml_RL_71 : Cond.methodLink RL 71 yX5_law ∈ mALL := mem_tb 496 (by decide +kernel) (by decide +kernel)
theorem wim_X5_law : Cond.instanceMethod yX5_law ∈ mALL := mem_tb 497 (by decide +kernel) (by decide +kernel)
theorem wse_X5_law : Cond.selects RX5 yX5_law yX5_law ∈ mALL := mem_tb 498 (by decide +kernel) (by decide +kernel)
theorem ml_RL_75 : Cond.methodLink RL 75 yX6_law ∈ mALL := mem_tb 942 (by decide +kernel) (by decide +kernel)
theorem wim_X6_law : Cond.instanceMethod yX6_law ∈ mALL := mem_tb 943 (by decide +kernel) (by decide +kernel)
theorem wse_X6_law : Cond.selects RX6 yX6_law yX6_law ∈ mALL := mem_tb 944 (by decide +kernel) (by decide +kernel)
theorem ml_RL_76 : Cond.methodLink RL 76 yX5_hears ∈ mALL := mem_tb 501 (by decide +kernel) (by decide +kernel)
theorem wim_X5_hears : Cond.instanceMethod yX5_hears ∈ mALL := mem_tb 502 (by decide +kernel) (by decide +kernel)
theorem wse_X5_hears : Cond.selects RX5 yX5_hears yX5_hears ∈ mALL := mem_tb 503 (by decide +kernel) (by decide +kernel)
theorem ml_RL_79 : Cond.methodLink RL 79 yX6_hears ∈ mALL := mem_tb 946 (by decide +kernel) (by decide +kernel)
theorem wim_X6_hears : Cond.instanceMethod yX6_hears ∈ mALL := mem_tb 947 (by decide +kernel) (by decide +kernel)
theorem wse_X6_hears : Cond.selects RX6 yX6_hears yX6_hears ∈ mALL := mem_tb 948 (by decide +kernel) (by decide +kernel)
theorem ml_RL_80 : Cond.methodLink RL 80 yX5_heard ∈ mALL := mem_tb 534 (by decide +kernel) (by decide +kernel)
theorem wim_X5_heard : Cond.instanceMethod yX5_heard ∈ mALL := mem_tb 535 (by decide +kernel) (by decide +kernel)
theorem wse_X5_heard : Cond.selects RX5 yX5_heard yX5_heard ∈ mALL := mem_tb 536 (by decide +kernel) (by decide +kernel)
theorem ml_RL_83 : Cond.methodLink RL 83 yX6_heard ∈ mALL := mem_tb 974 (by decide +kernel) (by decide +kernel)
theorem wim_X6_heard : Cond.instanceMethod yX6_heard ∈ mALL := mem_tb 975 (by decide +kernel) (by decide +kernel)
theorem wse_X6_heard : Cond.selects RX6 yX6_heard yX6_heard ∈ mALL := mem_tb 976 (by decide +kernel) (by decide +kernel)
theorem ml_RL_84 : Cond.methodLink RL 84 yX5_let ∈ mALL := mem_tb 539 (by decide +kernel) (by decide +kernel)
theorem wim_X5_let : Cond.instanceMethod yX5_let ∈ mALL := mem_tb 540 (by decide +kernel) (by decide +kernel)
theorem wse_X5_let : Cond.selects RX5 yX5_let yX5_let ∈ mALL := mem_tb 541 (by decide +kernel) (by decide +kernel)
theorem ml_RL_87 : Cond.methodLink RL 87 yX6_let ∈ mALL := mem_tb 979 (by decide +kernel) (by decide +kernel)
theorem wim_X6_let : Cond.instanceMethod yX6_let ∈ mALL := mem_tb 980 (by decide +kernel) (by decide +kernel)
theorem wse_X6_let : Cond.selects RX6 yX6_let yX6_let ∈ mALL := mem_tb 981 (by decide +kernel) (by decide +kernel)
theorem ml_RL_88 : Cond.methodLink RL 88 yX5_days ∈ mALL := mem_tb 549 (by decide +kernel) (by decide +kernel)
theorem wim_X5_days : Cond.instanceMethod yX5_days ∈ mALL := mem_tb 550 (by decide +kernel) (by decide +kernel)
theorem wse_X5_days : Cond.selects RX5 yX5_days yX5_days ∈ mALL := mem_tb 551 (by decide +kernel) (by decide +kernel)
theorem ml_RL_91 : Cond.methodLink RL 91 yX6_days ∈ mALL := mem_tb 988 (by decide +kernel) (by decide +kernel)
theorem wim_X6_days : Cond.instanceMethod yX6_days ∈ mALL := mem_tb 989 (by decide +kernel) (by decide +kernel)
theorem wse_X6_days : Cond.selects RX6 yX6_days yX6_days ∈ mALL := mem_tb 990 (by decide +kernel) (by decide +kernel)
theorem ml_RL_92 : Cond.methodLink RL 92 yX5_loose ∈ mALL := mem_tb 557 (by decide +kernel) (by decide +kernel)
theorem wim_X5_loose : Cond.instanceMethod yX5_loose ∈ mALL := mem_tb 558 (by decide +kernel) (by decide +kernel)
theorem wse_X5_loose : Cond.selects RX5 yX5_loose yX5_loose ∈ mALL := mem_tb 559 (by decide +kernel) (by decide +kernel)
theorem ml_RL_95 : Cond.methodLink RL 95 yX6_loose ∈ mALL := mem_tb 992 (by decide +kernel) (by decide +kernel)
theorem wim_X6_loose : Cond.instanceMethod yX6_loose ∈ mALL := mem_tb 993 (by decide +kernel) (by decide +kernel)
theorem wse_X6_loose : Cond.selects RX6 yX6_loose yX6_loose ∈ mALL := mem_tb 994 (by decide +kernel) (by decide +kernel)
theorem ml_RL_96 : Cond.methodLink RL 96 yX5_seed ∈ mALL := mem_tb 566 (by decide +kernel) (by decide +kernel)
theorem wim_X5_seed : Cond.instanceMethod yX5_seed ∈ mALL := mem_tb 567 (by decide +kernel) (by decide +kernel)
theorem wse_X5_seed : Cond.selects RX5 yX5_seed yX5_seed ∈ mALL := mem_tb 568 (by decide +kernel) (by decide +kernel)
theorem ml_RL_99 : Cond.methodLink RL 99 yX6_seed ∈ mALL := mem_tb 1001 (by decide +kernel) (by decide +kernel)
theorem wim_X6_seed : Cond.instanceMethod yX6_seed ∈ mALL := mem_tb 1002 (by decide +kernel) (by decide +kernel)
theorem wse_X6_seed : Cond.selects RX6 yX6_seed yX6_seed ∈ mALL := mem_tb 1003 (by decide +kernel) (by decide +kernel)
theorem ml_RL_100 : Cond.methodLink RL 100 yX5_hush ∈ mALL := mem_tb 570 (by decide +kernel) (by decide +kernel)
theorem wim_X5_hush : Cond.instanceMethod yX5_hush ∈ mALL := mem_tb 571 (by decide +kernel) (by decide +kernel)
theorem wse_X5_hush : Cond.selects RX5 yX5_hush yX5_hush ∈ mALL := mem_tb 572 (by decide +kernel) (by decide +kernel)
theorem ml_RL_103 : Cond.methodLink RL 103 yX6_hush ∈ mALL := mem_tb 1005 (by decide +kernel) (by decide +kernel)
theorem wim_X6_hush : Cond.instanceMethod yX6_hush ∈ mALL := mem_tb 1006 (by decide +kernel) (by decide +kernel)
theorem wse_X6_hush : Cond.selects RX6 yX6_hush yX6_hush ∈ mALL := mem_tb 1007 (by decide +kernel) (by decide +kernel)
theorem ml_RL_104 : Cond.methodLink RL 104 yX5_reach ∈ mALL := mem_tb 584 (by decide +kernel) (by decide +kernel)
theorem wim_X5_reach : Cond.instanceMethod yX5_reach ∈ mALL := mem_tb 585 (by decide +kernel) (by decide +kernel)
theorem wse_X5_reach : Cond.selects RX5 yX5_reach yX5_reach ∈ mALL := mem_tb 586 (by decide +kernel) (by decide +kernel)
theorem ml_RL_108 : Cond.methodLink RL 108 yX6_reach ∈ mALL := mem_tb 1012 (by decide +kernel) (by decide +kernel)
theorem wim_X6_reach : Cond.instanceMethod yX6_reach ∈ mALL := mem_tb 1013 (by decide +kernel) (by decide +kernel)
theorem wse_X6_reach : Cond.selects RX6 yX6_reach yX6_reach ∈ mALL := mem_tb 1014 (by decide +kernel) (by decide +kernel)
theorem ml_RL_109 : Cond.methodLink RL 109 yX5_odds ∈ mALL := mem_tb 592 (by decide +kernel) (by decide +kernel)
theorem wim_X5_odds : Cond.instanceMethod yX5_odds ∈ mALL := mem_tb 593 (by decide +kernel) (by decide +kernel)
theorem wse_X5_odds : Cond.selects RX5 yX5_odds yX5_odds ∈ mALL := mem_tb 594 (by decide +kernel) (by decide +kernel)
theorem ml_RL_112 : Cond.methodLink RL 112 yX6_odds ∈ mALL := mem_tb 1016 (by decide +kernel) (by decide +kernel)
theorem wim_X6_odds : Cond.instanceMethod yX6_odds ∈ mALL := mem_tb 1017 (by decide +kernel) (by decide +kernel)
theorem wse_X6_odds : Cond.selects RX6 yX6_odds yX6_odds ∈ mALL := mem_tb 1018 (by decide +kernel) (by decide +kernel)
theorem ml_RL_113 : Cond.methodLink RL 113 yX5_fits ∈ mALL := mem_tb 599 (by decide +kernel) (by decide +kernel)
theorem wim_X5_fits : Cond.instanceMethod yX5_fits ∈ mALL := mem_tb 600 (by decide +kernel) (by decide +kernel)
theorem wse_X5_fits : Cond.selects RX5 yX5_fits yX5_fits ∈ mALL := mem_tb 601 (by decide +kernel) (by decide +kernel)
theorem ml_RL_116 : Cond.methodLink RL 116 yX6_fits ∈ mALL := mem_tb 1020 (by decide +kernel) (by decide +kernel)
theorem wim_X6_fits : Cond.instanceMethod yX6_fits ∈ mALL := mem_tb 1021 (by decide +kernel) (by decide +kernel)
theorem wse_X6_fits : Cond.selects RX6 yX6_fits yX6_fits ∈ mALL := mem_tb 1022 (by decide +kernel) (by decide +kernel)
theorem ml_RL_117 : Cond.methodLink RL 117 yX5_voice ∈ mALL := mem_tb 614 (by decide +kernel) (by decide +kernel)
theorem wim_X5_voice : Cond.instanceMethod yX5_voice ∈ mALL := mem_tb 615 (by decide +kernel) (by decide +kernel)
theorem wse_X5_voice : Cond.selects RX5 yX5_voice yX5_voice ∈ mALL := mem_tb 616 (by decide +kernel) (by decide +kernel)
theorem ml_RL_120 : Cond.methodLink RL 120 yX6_voice ∈ mALL := mem_tb 1031 (by decide +kernel) (by decide +kernel)
theorem wim_X6_voice : Cond.instanceMethod yX6_voice ∈ mALL := mem_tb 1032 (by decide +kernel) (by decide +kernel)
theorem wse_X6_voice : Cond.selects RX6 yX6_voice yX6_voice ∈ mALL := mem_tb 1033 (by decide +kernel) (by decide +kernel)
theorem ml_RL_121 : Cond.methodLink RL 121 yX5_body ∈ mALL := mem_tb 637 (by decide +kernel) (by decide +kernel)
theorem wim_X5_body : Cond.instanceMethod yX5_body ∈ mALL := mem_tb 638 (by decide +kernel) (by decide +kernel)
theorem wse_X5_body : Cond.selects RX5 yX5_body yX5_body ∈ mALL := mem_tb 639 (by decide +kernel) (by decide +kernel)
theorem ml_RL_124 : Cond.methodLink RL 124 yX6_body ∈ mALL := mem_tb 1080 (by decide +kernel) (by decide +kernel)
theorem wim_X6_body : Cond.instanceMethod yX6_body ∈ mALL := mem_tb 1081 (by decide +kernel) (by decide +kernel)
theorem wse_X6_body : Cond.selects RX6 yX6_body yX6_body ∈ mALL := mem_tb 1082 (by decide +kernel) (by decide +kernel)
theorem ml_RL_125 : Cond.methodLink RL 125 yX5_sheet ∈ mALL := mem_tb 641 (by decide +kernel) (by decide +kernel)
theorem wim_X5_sheet : Cond.instanceMethod yX5_sheet ∈ mALL := mem_tb 642 (by decide +kernel) (by decide +kernel)
theorem wse_X5_sheet : Cond.selects RX5 yX5_sheet yX5_sheet ∈ mALL := mem_tb 643 (by decide +kernel) (by decide +kernel)
theorem ml_RL_128 : Cond.methodLink RL 128 yX6_sheet ∈ mALL := mem_tb 1084 (by decide +kernel) (by decide +kernel)
theorem wim_X6_sheet : Cond.instanceMethod yX6_sheet ∈ mALL := mem_tb 1085 (by decide +kernel) (by decide +kernel)
theorem wse_X6_sheet : Cond.selects RX6 yX6_sheet yX6_sheet ∈ mALL := mem_tb 1086 (by decide +kernel) (by decide +kernel)
theorem ml_RL_129 : Cond.methodLink RL 129 yX5_put ∈ mALL := mem_tb 649 (by decide +kernel) (by decide +kernel)
theorem wim_X5_put : Cond.instanceMethod yX5_put ∈ mALL := mem_tb 650 (by decide +kernel) (by decide +kernel)
theorem wse_X5_put : Cond.selects RX5 yX5_put yX5_put ∈ mALL := mem_tb 651 (by decide +kernel) (by decide +kernel)
theorem ml_RL_132 : Cond.methodLink RL 132 yX6_put ∈ mALL := mem_tb 1088 (by decide +kernel) (by decide +kernel)
theorem wim_X6_put : Cond.instanceMethod yX6_put ∈ mALL := mem_tb 1089 (by decide +kernel) (by decide +kernel)
theorem wse_X6_put : Cond.selects RX6 yX6_put yX6_put ∈ mALL := mem_tb 1090 (by decide +kernel) (by decide +kernel)
theorem ml_RL_133 : Cond.methodLink RL 133 yX5_move ∈ mALL := mem_tb 657 (by decide +kernel) (by decide +kernel)
theorem wim_X5_move : Cond.instanceMethod yX5_move ∈ mALL := mem_tb 658 (by decide +kernel) (by decide +kernel)
theorem wse_X5_move : Cond.selects RX5 yX5_move yX5_move ∈ mALL := mem_tb 659 (by decide +kernel) (by decide +kernel)
theorem ml_RL_136 : Cond.methodLink RL 136 yX6_move ∈ mALL := mem_tb 1096 (by decide +kernel) (by decide +kernel)
theorem wim_X6_move : Cond.instanceMethod yX6_move ∈ mALL := mem_tb 1097 (by decide +kernel) (by decide +kernel)
theorem wse_X6_move : Cond.selects RX6 yX6_move yX6_move ∈ mALL := mem_tb 1098 (by decide +kernel) (by decide +kernel)
theorem ml_RL_137 : Cond.methodLink RL 137 yX5_talks ∈ mALL := mem_tb 666 (by decide +kernel) (by decide +kernel)
theorem wim_X5_talks : Cond.instanceMethod yX5_talks ∈ mALL := mem_tb 667 (by decide +kernel) (by decide +kernel)
theorem wse_X5_talks : Cond.selects RX5 yX5_talks yX5_talks ∈ mALL := mem_tb 668 (by decide +kernel) (by decide +kernel)
theorem ml_RL_140 : Cond.methodLink RL 140 yX6_talks ∈ mALL := mem_tb 1104 (by decide +kernel) (by decide +kernel)
theorem wim_X6_talks : Cond.instanceMethod yX6_talks ∈ mALL := mem_tb 1105 (by decide +kernel) (by decide +kernel)
theorem wse_X6_talks : Cond.selects RX6 yX6_talks yX6_talks ∈ mALL := mem_tb 1106 (by decide +kernel) (by decide +kernel)
theorem ml_RL_141 : Cond.methodLink RL 141 yX5_judge ∈ mALL := mem_tb 670 (by decide +kernel) (by decide +kernel)
theorem wim_X5_judge : Cond.instanceMethod yX5_judge ∈ mALL := mem_tb 671 (by decide +kernel) (by decide +kernel)
theorem wse_X5_judge : Cond.selects RX5 yX5_judge yX5_judge ∈ mALL := mem_tb 672 (by decide +kernel) (by decide +kernel)
theorem ml_RL_144 : Cond.methodLink RL 144 yX6_judge ∈ mALL := mem_tb 1108 (by decide +kernel) (by decide +kernel)
theorem wim_X6_judge : Cond.instanceMethod yX6_judge ∈ mALL := mem_tb 1109 (by decide +kernel) (by decide +kernel)
theorem wse_X6_judge : Cond.selects RX6 yX6_judge yX6_judge ∈ mALL := mem_tb 1110 (by decide +kernel) (by decide +kernel)
theorem ml_RL_145 : Cond.methodLink RL 145 yX5_image ∈ mALL := mem_tb 674 (by decide +kernel) (by decide +kernel)
theorem wim_X5_image : Cond.instanceMethod yX5_image ∈ mALL := mem_tb 675 (by decide +kernel) (by decide +kernel)
theorem wse_X5_image : Cond.selects RX5 yX5_image yX5_image ∈ mALL := mem_tb 676 (by decide +kernel) (by decide +kernel)
theorem ml_RL_149 : Cond.methodLink RL 149 yX6_image ∈ mALL := mem_tb 1112 (by decide +kernel) (by decide +kernel)
theorem wim_X6_image : Cond.instanceMethod yX6_image ∈ mALL := mem_tb 1113 (by decide +kernel) (by decide +kernel)
theorem wse_X6_image : Cond.selects RX6 yX6_image yX6_image ∈ mALL := mem_tb 1114 (by decide +kernel) (by decide +kernel)
theorem ml_RL_150 : Cond.methodLink RL 150 yX5_restore ∈ mALL := mem_tb 684 (by decide +kernel) (by decide +kernel)
theorem wim_X5_restore : Cond.instanceMethod yX5_restore ∈ mALL := mem_tb 685 (by decide +kernel) (by decide +kernel)
theorem wse_X5_restore : Cond.selects RX5 yX5_restore yX5_restore ∈ mALL := mem_tb 686 (by decide +kernel) (by decide +kernel)
theorem ml_RL_153 : Cond.methodLink RL 153 yX6_restore ∈ mALL := mem_tb 1119 (by decide +kernel) (by decide +kernel)
theorem wim_X6_restore : Cond.instanceMethod yX6_restore ∈ mALL := mem_tb 1120 (by decide +kernel) (by decide +kernel)
theorem wse_X6_restore : Cond.selects RX6 yX6_restore yX6_restore ∈ mALL := mem_tb 1121 (by decide +kernel) (by decide +kernel)
theorem ml_RL_154 : Cond.methodLink RL 154 yX5_tell ∈ mALL := mem_tb 688 (by decide +kernel) (by decide +kernel)
theorem wim_X5_tell : Cond.instanceMethod yX5_tell ∈ mALL := mem_tb 689 (by decide +kernel) (by decide +kernel)
theorem wse_X5_tell : Cond.selects RX5 yX5_tell yX5_tell ∈ mALL := mem_tb 690 (by decide +kernel) (by decide +kernel)
theorem ml_RL_157 : Cond.methodLink RL 157 yX6_tell ∈ mALL := mem_tb 1123 (by decide +kernel) (by decide +kernel)
theorem wim_X6_tell : Cond.instanceMethod yX6_tell ∈ mALL := mem_tb 1124 (by decide +kernel) (by decide +kernel)
theorem wse_X6_tell : Cond.selects RX6 yX6_tell yX6_tell ∈ mALL := mem_tb 1125 (by decide +kernel) (by decide +kernel)
theorem ml_RL_158 : Cond.methodLink RL 158 yX5_check ∈ mALL := mem_tb 692 (by decide +kernel) (by decide +kernel)
theorem wim_X5_check : Cond.instanceMethod yX5_check ∈ mALL := mem_tb 693 (by decide +kernel) (by decide +kernel)
theorem wse_X5_check : Cond.selects RX5 yX5_check yX5_check ∈ mALL := mem_tb 694 (by decide +kernel) (by decide +kernel)
theorem ml_RL_161 : Cond.methodLink RL 161 yX6_check ∈ mALL := mem_tb 1127 (by decide +kernel) (by decide +kernel)
theorem wim_X6_check : Cond.instanceMethod yX6_check ∈ mALL := mem_tb 1128 (by decide +kernel) (by decide +kernel)
theorem wse_X6_check : Cond.selects RX6 yX6_check yX6_check ∈ mALL := mem_tb 1129 (by decide +kernel) (by decide +kernel)
theorem ml_RL_162 : Cond.methodLink RL 162 yX5_count ∈ mALL := mem_tb 696 (by decide +kernel) (by decide +kernel)
theorem wim_X5_count : Cond.instanceMethod yX5_count ∈ mALL := mem_tb 697 (by decide +kernel) (by decide +kernel)
theorem wse_X5_count : Cond.selects RX5 yX5_count yX5_count ∈ mALL := mem_tb 698 (by decide +kernel) (by decide +kernel)
theorem ml_RL_165 : Cond.methodLink RL 165 yX6_count ∈ mALL := mem_tb 1131 (by decide +kernel) (by decide +kernel)
theorem wim_X6_count : Cond.instanceMethod yX6_count ∈ mALL := mem_tb 1132 (by decide +kernel) (by decide +kernel)
theorem wse_X6_count : Cond.selects RX6 yX6_count yX6_count ∈ mALL := mem_tb 1133 (by decide +kernel) (by decide +kernel)
theorem ml_RL_166 : Cond.methodLink RL 166 yX5_told ∈ mALL := mem_tb 700 (by decide +kernel) (by decide +kernel)
theorem wim_X5_told : Cond.instanceMethod yX5_told ∈ mALL := mem_tb 701 (by decide +kernel) (by decide +kernel)
theorem wse_X5_told : Cond.selects RX5 yX5_told yX5_told ∈ mALL := mem_tb 702 (by decide +kernel) (by decide +kernel)
theorem ml_RL_169 : Cond.methodLink RL 169 yX6_told ∈ mALL := mem_tb 1135 (by decide +kernel) (by decide +kernel)
theorem wim_X6_told : Cond.instanceMethod yX6_told ∈ mALL := mem_tb 1136 (by decide +kernel) (by decide +kernel)
theorem wse_X6_told : Cond.selects RX6 yX6_told yX6_told ∈ mALL := mem_tb 1137 (by decide +kernel) (by decide +kernel)
theorem dL_law_0 : decode cL_law 0 = .ok (.new 7, 3) := by decide +kernel
theorem dL_law_3 : decode cL_law 3 = .ok (.dup, 1) := by decide +kernel
theorem dL_law_4 : decode cL_law 4 = .ok (.invokespecial 9, 3) := by decide +kernel
theorem dL_law_7 : decode cL_law 7 = .ok (.astore_n 1, 1) := by decide +kernel
theorem dL_law_8 : decode cL_law 8 = .ok (.new 10, 3) := by decide +kernel
theorem dL_law_11 : decode cL_law 11 = .ok (.dup, 1) := by decide +kernel
theorem dL_law_12 : decode cL_law 12 = .ok (.invokespecial 12, 3) := by decide +kernel
theorem dL_law_15 : decode cL_law 15 = .ok (.astore_n 2, 1) := by decide +kernel
theorem dL_law_16 : decode cL_law 16 = .ok (.iconst 0, 1) := by decide +kernel
theorem dL_law_17 : decode cL_law 17 = .ok (.istore_n 3, 1) := by decide +kernel
theorem dL_law_18 : decode cL_law 18 = .ok (.iload_n 3, 1) := by decide +kernel
theorem dL_law_19 : decode cL_law 19 = .ok (.aload_n 0, 1) := by decide +kernel
theorem dL_law_20 : decode cL_law 20 = .ok (.arraylength, 1) := by decide +kernel
theorem dL_law_21 : decode cL_law 21 = .ok (.bipush 6, 2) := by decide +kernel
theorem dL_law_23 : decode cL_law 23 = .ok (.isub, 1) := by decide +kernel
theorem dL_law_24 : decode cL_law 24 = .ok (.if_icmp .gt 1419, 3) := by decide +kernel
theorem dL_law_27 : decode cL_law 27 = .ok (.aload_n 0, 1) := by decide +kernel
theorem dL_law_28 : decode cL_law 28 = .ok (.iload_n 3, 1) := by decide +kernel
theorem dL_law_29 : decode cL_law 29 = .ok (.iaload, 1) := by decide +kernel
theorem dL_law_30 : decode cL_law 30 = .ok (.bipush 63, 2) := by decide +kernel
theorem dL_law_32 : decode cL_law 32 = .ok (.iand, 1) := by decide +kernel
theorem dL_law_33 : decode cL_law 33 = .ok (.tableswitch 1404 0 36 #[163, 196, 229, 262, 295, 328, 361, 404, 437, 470, 493, 556, 579, 602, 655, 688, 741, 774, 797, 820, 843, 896, 959, 1002, 1035, 1078, 1101, 1144, 1187, 1250, 1273, 1296, 1309, 1322, 1345, 1358, 1381], 163) := by decide +kernel
theorem dL_law_196 : decode cL_law 196 = .ok (.aload_n 1, 1) := by decide +kernel
theorem dL_law_197 : decode cL_law 197 = .ok (.aload_n 0, 1) := by decide +kernel
theorem dL_law_198 : decode cL_law 198 = .ok (.iload_n 3, 1) := by decide +kernel
theorem dL_law_199 : decode cL_law 199 = .ok (.iconst 1, 1) := by decide +kernel
theorem dL_law_200 : decode cL_law 200 = .ok (.iadd, 1) := by decide +kernel
theorem dL_law_201 : decode cL_law 201 = .ok (.iaload, 1) := by decide +kernel
theorem dL_law_202 : decode cL_law 202 = .ok (.aload_n 0, 1) := by decide +kernel
theorem dL_law_203 : decode cL_law 203 = .ok (.iload_n 3, 1) := by decide +kernel
theorem dL_law_204 : decode cL_law 204 = .ok (.iconst 2, 1) := by decide +kernel
theorem dL_law_205 : decode cL_law 205 = .ok (.iadd, 1) := by decide +kernel
theorem dL_law_206 : decode cL_law 206 = .ok (.iaload, 1) := by decide +kernel
theorem dL_law_207 : decode cL_law 207 = .ok (.invokevirtual 13, 3) := by decide +kernel
theorem dL_law_210 : decode cL_law 210 = .ok (.aload_n 2, 1) := by decide +kernel
theorem dL_law_211 : decode cL_law 211 = .ok (.aload_n 0, 1) := by decide +kernel
theorem dL_law_212 : decode cL_law 212 = .ok (.iload_n 3, 1) := by decide +kernel
theorem dL_law_213 : decode cL_law 213 = .ok (.iconst 1, 1) := by decide +kernel
theorem dL_law_214 : decode cL_law 214 = .ok (.iadd, 1) := by decide +kernel
theorem dL_law_215 : decode cL_law 215 = .ok (.iaload, 1) := by decide +kernel
theorem dL_law_216 : decode cL_law 216 = .ok (.aload_n 0, 1) := by decide +kernel
theorem dL_law_217 : decode cL_law 217 = .ok (.iload_n 3, 1) := by decide +kernel
theorem dL_law_218 : decode cL_law 218 = .ok (.iconst 2, 1) := by decide +kernel
theorem dL_law_219 : decode cL_law 219 = .ok (.iadd, 1) := by decide +kernel
theorem dL_law_220 : decode cL_law 220 = .ok (.iaload, 1) := by decide +kernel
theorem dL_law_221 : decode cL_law 221 = .ok (.invokevirtual 17, 3) := by decide +kernel
theorem dL_law_224 : decode cL_law 224 = .ok (.if_icmp .eq 1213, 3) := by decide +kernel
theorem dL_law_227 : decode cL_law 227 = .ok (.iconst 0, 1) := by decide +kernel
theorem dL_law_228 : decode cL_law 228 = .ok (.ireturn, 1) := by decide +kernel
theorem dL_law_229 : decode cL_law 229 = .ok (.aload_n 1, 1) := by decide +kernel
theorem dL_law_230 : decode cL_law 230 = .ok (.aload_n 0, 1) := by decide +kernel
theorem dL_law_231 : decode cL_law 231 = .ok (.iload_n 3, 1) := by decide +kernel
theorem dL_law_232 : decode cL_law 232 = .ok (.iconst 1, 1) := by decide +kernel
theorem dL_law_233 : decode cL_law 233 = .ok (.iadd, 1) := by decide +kernel
theorem dL_law_234 : decode cL_law 234 = .ok (.iaload, 1) := by decide +kernel
theorem dL_law_235 : decode cL_law 235 = .ok (.aload_n 0, 1) := by decide +kernel
theorem dL_law_236 : decode cL_law 236 = .ok (.iload_n 3, 1) := by decide +kernel
theorem dL_law_237 : decode cL_law 237 = .ok (.iconst 2, 1) := by decide +kernel
theorem dL_law_238 : decode cL_law 238 = .ok (.iadd, 1) := by decide +kernel
theorem dL_law_239 : decode cL_law 239 = .ok (.iaload, 1) := by decide +kernel
theorem dL_law_240 : decode cL_law 240 = .ok (.invokevirtual 18, 3) := by decide +kernel
theorem dL_law_243 : decode cL_law 243 = .ok (.aload_n 2, 1) := by decide +kernel
theorem dL_law_244 : decode cL_law 244 = .ok (.aload_n 0, 1) := by decide +kernel
theorem dL_law_245 : decode cL_law 245 = .ok (.iload_n 3, 1) := by decide +kernel
theorem dL_law_246 : decode cL_law 246 = .ok (.iconst 1, 1) := by decide +kernel
theorem dL_law_247 : decode cL_law 247 = .ok (.iadd, 1) := by decide +kernel
theorem dL_law_248 : decode cL_law 248 = .ok (.iaload, 1) := by decide +kernel
theorem dL_law_249 : decode cL_law 249 = .ok (.aload_n 0, 1) := by decide +kernel
theorem dL_law_250 : decode cL_law 250 = .ok (.iload_n 3, 1) := by decide +kernel
theorem dL_law_251 : decode cL_law 251 = .ok (.iconst 2, 1) := by decide +kernel
theorem dL_law_252 : decode cL_law 252 = .ok (.iadd, 1) := by decide +kernel
theorem dL_law_253 : decode cL_law 253 = .ok (.iaload, 1) := by decide +kernel
theorem dL_law_254 : decode cL_law 254 = .ok (.invokevirtual 21, 3) := by decide +kernel
theorem dL_law_257 : decode cL_law 257 = .ok (.if_icmp .eq 1180, 3) := by decide +kernel
theorem dL_law_260 : decode cL_law 260 = .ok (.iconst 0, 1) := by decide +kernel
theorem dL_law_261 : decode cL_law 261 = .ok (.ireturn, 1) := by decide +kernel
theorem dL_law_262 : decode cL_law 262 = .ok (.aload_n 1, 1) := by decide +kernel
theorem dL_law_263 : decode cL_law 263 = .ok (.aload_n 0, 1) := by decide +kernel
theorem dL_law_264 : decode cL_law 264 = .ok (.iload_n 3, 1) := by decide +kernel
theorem dL_law_265 : decode cL_law 265 = .ok (.iconst 1, 1) := by decide +kernel
theorem dL_law_266 : decode cL_law 266 = .ok (.iadd, 1) := by decide +kernel
theorem dL_law_267 : decode cL_law 267 = .ok (.iaload, 1) := by decide +kernel
theorem dL_law_268 : decode cL_law 268 = .ok (.aload_n 0, 1) := by decide +kernel
theorem dL_law_269 : decode cL_law 269 = .ok (.iload_n 3, 1) := by decide +kernel
theorem dL_law_270 : decode cL_law 270 = .ok (.iconst 2, 1) := by decide +kernel
theorem dL_law_271 : decode cL_law 271 = .ok (.iadd, 1) := by decide +kernel
theorem dL_law_272 : decode cL_law 272 = .ok (.iaload, 1) := by decide +kernel
theorem dL_law_273 : decode cL_law 273 = .ok (.invokevirtual 22, 3) := by decide +kernel
theorem dL_law_276 : decode cL_law 276 = .ok (.aload_n 2, 1) := by decide +kernel
theorem dL_law_277 : decode cL_law 277 = .ok (.aload_n 0, 1) := by decide +kernel
theorem dL_law_278 : decode cL_law 278 = .ok (.iload_n 3, 1) := by decide +kernel
theorem dL_law_279 : decode cL_law 279 = .ok (.iconst 1, 1) := by decide +kernel
theorem dL_law_280 : decode cL_law 280 = .ok (.iadd, 1) := by decide +kernel
theorem dL_law_281 : decode cL_law 281 = .ok (.iaload, 1) := by decide +kernel
theorem dL_law_282 : decode cL_law 282 = .ok (.aload_n 0, 1) := by decide +kernel
theorem dL_law_283 : decode cL_law 283 = .ok (.iload_n 3, 1) := by decide +kernel
theorem dL_law_284 : decode cL_law 284 = .ok (.iconst 2, 1) := by decide +kernel
theorem dL_law_285 : decode cL_law 285 = .ok (.iadd, 1) := by decide +kernel
theorem dL_law_286 : decode cL_law 286 = .ok (.iaload, 1) := by decide +kernel
theorem dL_law_287 : decode cL_law 287 = .ok (.invokevirtual 25, 3) := by decide +kernel
theorem dL_law_290 : decode cL_law 290 = .ok (.if_icmp .eq 1147, 3) := by decide +kernel
theorem dL_law_293 : decode cL_law 293 = .ok (.iconst 0, 1) := by decide +kernel
theorem dL_law_294 : decode cL_law 294 = .ok (.ireturn, 1) := by decide +kernel
theorem dL_law_295 : decode cL_law 295 = .ok (.aload_n 1, 1) := by decide +kernel
theorem dL_law_296 : decode cL_law 296 = .ok (.aload_n 0, 1) := by decide +kernel
theorem dL_law_297 : decode cL_law 297 = .ok (.iload_n 3, 1) := by decide +kernel
theorem dL_law_298 : decode cL_law 298 = .ok (.iconst 1, 1) := by decide +kernel
theorem dL_law_299 : decode cL_law 299 = .ok (.iadd, 1) := by decide +kernel
theorem dL_law_300 : decode cL_law 300 = .ok (.iaload, 1) := by decide +kernel
theorem dL_law_301 : decode cL_law 301 = .ok (.aload_n 0, 1) := by decide +kernel
theorem dL_law_302 : decode cL_law 302 = .ok (.iload_n 3, 1) := by decide +kernel
theorem dL_law_303 : decode cL_law 303 = .ok (.iconst 2, 1) := by decide +kernel
theorem dL_law_304 : decode cL_law 304 = .ok (.iadd, 1) := by decide +kernel
theorem dL_law_305 : decode cL_law 305 = .ok (.iaload, 1) := by decide +kernel
theorem dL_law_306 : decode cL_law 306 = .ok (.invokevirtual 26, 3) := by decide +kernel
theorem dL_law_309 : decode cL_law 309 = .ok (.aload_n 2, 1) := by decide +kernel
theorem dL_law_310 : decode cL_law 310 = .ok (.aload_n 0, 1) := by decide +kernel
theorem dL_law_311 : decode cL_law 311 = .ok (.iload_n 3, 1) := by decide +kernel
theorem dL_law_312 : decode cL_law 312 = .ok (.iconst 1, 1) := by decide +kernel
theorem dL_law_313 : decode cL_law 313 = .ok (.iadd, 1) := by decide +kernel
theorem dL_law_314 : decode cL_law 314 = .ok (.iaload, 1) := by decide +kernel
theorem dL_law_315 : decode cL_law 315 = .ok (.aload_n 0, 1) := by decide +kernel
theorem dL_law_316 : decode cL_law 316 = .ok (.iload_n 3, 1) := by decide +kernel
theorem dL_law_317 : decode cL_law 317 = .ok (.iconst 2, 1) := by decide +kernel
theorem dL_law_318 : decode cL_law 318 = .ok (.iadd, 1) := by decide +kernel
theorem dL_law_319 : decode cL_law 319 = .ok (.iaload, 1) := by decide +kernel
theorem dL_law_320 : decode cL_law 320 = .ok (.invokevirtual 29, 3) := by decide +kernel
theorem dL_law_323 : decode cL_law 323 = .ok (.if_icmp .eq 1114, 3) := by decide +kernel
theorem dL_law_326 : decode cL_law 326 = .ok (.iconst 0, 1) := by decide +kernel
theorem dL_law_327 : decode cL_law 327 = .ok (.ireturn, 1) := by decide +kernel
theorem dL_law_328 : decode cL_law 328 = .ok (.aload_n 1, 1) := by decide +kernel
theorem dL_law_329 : decode cL_law 329 = .ok (.aload_n 0, 1) := by decide +kernel
theorem dL_law_330 : decode cL_law 330 = .ok (.iload_n 3, 1) := by decide +kernel
theorem dL_law_331 : decode cL_law 331 = .ok (.iconst 1, 1) := by decide +kernel
theorem dL_law_332 : decode cL_law 332 = .ok (.iadd, 1) := by decide +kernel
theorem dL_law_333 : decode cL_law 333 = .ok (.iaload, 1) := by decide +kernel
theorem dL_law_334 : decode cL_law 334 = .ok (.aload_n 0, 1) := by decide +kernel
theorem dL_law_335 : decode cL_law 335 = .ok (.iload_n 3, 1) := by decide +kernel
theorem dL_law_336 : decode cL_law 336 = .ok (.iconst 2, 1) := by decide +kernel
theorem dL_law_337 : decode cL_law 337 = .ok (.iadd, 1) := by decide +kernel
theorem dL_law_338 : decode cL_law 338 = .ok (.iaload, 1) := by decide +kernel
theorem dL_law_339 : decode cL_law 339 = .ok (.invokevirtual 30, 3) := by decide +kernel
theorem dL_law_342 : decode cL_law 342 = .ok (.aload_n 2, 1) := by decide +kernel
theorem dL_law_343 : decode cL_law 343 = .ok (.aload_n 0, 1) := by decide +kernel
theorem dL_law_344 : decode cL_law 344 = .ok (.iload_n 3, 1) := by decide +kernel
theorem dL_law_345 : decode cL_law 345 = .ok (.iconst 1, 1) := by decide +kernel
theorem dL_law_346 : decode cL_law 346 = .ok (.iadd, 1) := by decide +kernel
theorem dL_law_347 : decode cL_law 347 = .ok (.iaload, 1) := by decide +kernel
theorem dL_law_348 : decode cL_law 348 = .ok (.aload_n 0, 1) := by decide +kernel
theorem dL_law_349 : decode cL_law 349 = .ok (.iload_n 3, 1) := by decide +kernel
theorem dL_law_350 : decode cL_law 350 = .ok (.iconst 2, 1) := by decide +kernel
theorem dL_law_351 : decode cL_law 351 = .ok (.iadd, 1) := by decide +kernel
theorem dL_law_352 : decode cL_law 352 = .ok (.iaload, 1) := by decide +kernel
theorem dL_law_353 : decode cL_law 353 = .ok (.invokevirtual 33, 3) := by decide +kernel
theorem dL_law_356 : decode cL_law 356 = .ok (.if_icmp .eq 1081, 3) := by decide +kernel
theorem dL_law_359 : decode cL_law 359 = .ok (.iconst 0, 1) := by decide +kernel
theorem dL_law_360 : decode cL_law 360 = .ok (.ireturn, 1) := by decide +kernel
theorem dL_law_361 : decode cL_law 361 = .ok (.aload_n 1, 1) := by decide +kernel
theorem dL_law_362 : decode cL_law 362 = .ok (.aload_n 0, 1) := by decide +kernel
theorem dL_law_363 : decode cL_law 363 = .ok (.iload_n 3, 1) := by decide +kernel
theorem dL_law_364 : decode cL_law 364 = .ok (.iconst 1, 1) := by decide +kernel
theorem dL_law_365 : decode cL_law 365 = .ok (.iadd, 1) := by decide +kernel
theorem dL_law_366 : decode cL_law 366 = .ok (.iaload, 1) := by decide +kernel
theorem dL_law_367 : decode cL_law 367 = .ok (.aload_n 0, 1) := by decide +kernel
theorem dL_law_368 : decode cL_law 368 = .ok (.iload_n 3, 1) := by decide +kernel
theorem dL_law_369 : decode cL_law 369 = .ok (.iconst 2, 1) := by decide +kernel
theorem dL_law_370 : decode cL_law 370 = .ok (.iadd, 1) := by decide +kernel
theorem dL_law_371 : decode cL_law 371 = .ok (.iaload, 1) := by decide +kernel
theorem dL_law_372 : decode cL_law 372 = .ok (.invokevirtual 34, 3) := by decide +kernel
theorem dL_law_375 : decode cL_law 375 = .ok (.aload_n 2, 1) := by decide +kernel
theorem dL_law_376 : decode cL_law 376 = .ok (.aload_n 0, 1) := by decide +kernel
theorem dL_law_377 : decode cL_law 377 = .ok (.iload_n 3, 1) := by decide +kernel
theorem dL_law_378 : decode cL_law 378 = .ok (.iconst 1, 1) := by decide +kernel
theorem dL_law_379 : decode cL_law 379 = .ok (.iadd, 1) := by decide +kernel
theorem dL_law_380 : decode cL_law 380 = .ok (.iaload, 1) := by decide +kernel
theorem dL_law_381 : decode cL_law 381 = .ok (.aload_n 0, 1) := by decide +kernel
theorem dL_law_382 : decode cL_law 382 = .ok (.iload_n 3, 1) := by decide +kernel
theorem dL_law_383 : decode cL_law 383 = .ok (.iconst 2, 1) := by decide +kernel
theorem dL_law_384 : decode cL_law 384 = .ok (.iadd, 1) := by decide +kernel
theorem dL_law_385 : decode cL_law 385 = .ok (.iaload, 1) := by decide +kernel
theorem dL_law_386 : decode cL_law 386 = .ok (.invokevirtual 37, 3) := by decide +kernel
theorem dL_law_389 : decode cL_law 389 = .ok (.if_icmp .eq 1048, 3) := by decide +kernel
theorem dL_law_392 : decode cL_law 392 = .ok (.iconst 0, 1) := by decide +kernel
theorem dL_law_393 : decode cL_law 393 = .ok (.ireturn, 1) := by decide +kernel
theorem dL_law_394 : decode cL_law 394 = .ok (.aload_n 1, 1) := by decide +kernel
theorem dL_law_395 : decode cL_law 395 = .ok (.aload_n 0, 1) := by decide +kernel
theorem dL_law_396 : decode cL_law 396 = .ok (.iload_n 3, 1) := by decide +kernel
theorem dL_law_397 : decode cL_law 397 = .ok (.iconst 1, 1) := by decide +kernel
theorem dL_law_398 : decode cL_law 398 = .ok (.iadd, 1) := by decide +kernel
theorem dL_law_399 : decode cL_law 399 = .ok (.iaload, 1) := by decide +kernel
theorem dL_law_400 : decode cL_law 400 = .ok (.aload_n 0, 1) := by decide +kernel
theorem dL_law_401 : decode cL_law 401 = .ok (.iload_n 3, 1) := by decide +kernel
theorem dL_law_402 : decode cL_law 402 = .ok (.iconst 2, 1) := by decide +kernel
theorem dL_law_403 : decode cL_law 403 = .ok (.iadd, 1) := by decide +kernel
theorem dL_law_404 : decode cL_law 404 = .ok (.iaload, 1) := by decide +kernel
theorem dL_law_405 : decode cL_law 405 = .ok (.aload_n 0, 1) := by decide +kernel
theorem dL_law_406 : decode cL_law 406 = .ok (.iload_n 3, 1) := by decide +kernel
theorem dL_law_407 : decode cL_law 407 = .ok (.iconst 3, 1) := by decide +kernel
theorem dL_law_408 : decode cL_law 408 = .ok (.iadd, 1) := by decide +kernel
theorem dL_law_409 : decode cL_law 409 = .ok (.iaload, 1) := by decide +kernel
theorem dL_law_410 : decode cL_law 410 = .ok (.invokevirtual 38, 3) := by decide +kernel
theorem dL_law_413 : decode cL_law 413 = .ok (.aload_n 2, 1) := by decide +kernel
theorem dL_law_414 : decode cL_law 414 = .ok (.aload_n 0, 1) := by decide +kernel
theorem dL_law_415 : decode cL_law 415 = .ok (.iload_n 3, 1) := by decide +kernel
theorem dL_law_416 : decode cL_law 416 = .ok (.iconst 1, 1) := by decide +kernel
theorem dL_law_417 : decode cL_law 417 = .ok (.iadd, 1) := by decide +kernel
theorem dL_law_418 : decode cL_law 418 = .ok (.iaload, 1) := by decide +kernel
theorem dL_law_419 : decode cL_law 419 = .ok (.aload_n 0, 1) := by decide +kernel
theorem dL_law_420 : decode cL_law 420 = .ok (.iload_n 3, 1) := by decide +kernel
theorem dL_law_421 : decode cL_law 421 = .ok (.iconst 2, 1) := by decide +kernel
theorem dL_law_422 : decode cL_law 422 = .ok (.iadd, 1) := by decide +kernel
theorem dL_law_423 : decode cL_law 423 = .ok (.iaload, 1) := by decide +kernel
theorem dL_law_424 : decode cL_law 424 = .ok (.aload_n 0, 1) := by decide +kernel
theorem dL_law_425 : decode cL_law 425 = .ok (.iload_n 3, 1) := by decide +kernel
theorem dL_law_426 : decode cL_law 426 = .ok (.iconst 3, 1) := by decide +kernel
theorem dL_law_427 : decode cL_law 427 = .ok (.iadd, 1) := by decide +kernel
theorem dL_law_428 : decode cL_law 428 = .ok (.iaload, 1) := by decide +kernel
theorem dL_law_429 : decode cL_law 429 = .ok (.invokevirtual 42, 3) := by decide +kernel
theorem dL_law_432 : decode cL_law 432 = .ok (.if_icmp .eq 1005, 3) := by decide +kernel
theorem dL_law_435 : decode cL_law 435 = .ok (.iconst 0, 1) := by decide +kernel
theorem dL_law_436 : decode cL_law 436 = .ok (.ireturn, 1) := by decide +kernel
theorem dL_law_437 : decode cL_law 437 = .ok (.aload_n 1, 1) := by decide +kernel
theorem dL_law_438 : decode cL_law 438 = .ok (.aload_n 0, 1) := by decide +kernel
theorem dL_law_439 : decode cL_law 439 = .ok (.iload_n 3, 1) := by decide +kernel
theorem dL_law_440 : decode cL_law 440 = .ok (.iconst 1, 1) := by decide +kernel
theorem dL_law_441 : decode cL_law 441 = .ok (.iadd, 1) := by decide +kernel
theorem dL_law_442 : decode cL_law 442 = .ok (.iaload, 1) := by decide +kernel
theorem dL_law_443 : decode cL_law 443 = .ok (.aload_n 0, 1) := by decide +kernel
theorem dL_law_444 : decode cL_law 444 = .ok (.iload_n 3, 1) := by decide +kernel
theorem dL_law_445 : decode cL_law 445 = .ok (.iconst 2, 1) := by decide +kernel
theorem dL_law_446 : decode cL_law 446 = .ok (.iadd, 1) := by decide +kernel
theorem dL_law_447 : decode cL_law 447 = .ok (.iaload, 1) := by decide +kernel
theorem dL_law_448 : decode cL_law 448 = .ok (.invokevirtual 43, 3) := by decide +kernel
theorem dL_law_451 : decode cL_law 451 = .ok (.aload_n 2, 1) := by decide +kernel
theorem dL_law_452 : decode cL_law 452 = .ok (.aload_n 0, 1) := by decide +kernel
theorem dL_law_453 : decode cL_law 453 = .ok (.iload_n 3, 1) := by decide +kernel
theorem dL_law_454 : decode cL_law 454 = .ok (.iconst 1, 1) := by decide +kernel
theorem dL_law_455 : decode cL_law 455 = .ok (.iadd, 1) := by decide +kernel
theorem dL_law_456 : decode cL_law 456 = .ok (.iaload, 1) := by decide +kernel
theorem dL_law_457 : decode cL_law 457 = .ok (.aload_n 0, 1) := by decide +kernel
theorem dL_law_458 : decode cL_law 458 = .ok (.iload_n 3, 1) := by decide +kernel
theorem dL_law_459 : decode cL_law 459 = .ok (.iconst 2, 1) := by decide +kernel
theorem dL_law_460 : decode cL_law 460 = .ok (.iadd, 1) := by decide +kernel
theorem dL_law_461 : decode cL_law 461 = .ok (.iaload, 1) := by decide +kernel
theorem dL_law_462 : decode cL_law 462 = .ok (.invokevirtual 46, 3) := by decide +kernel
theorem dL_law_465 : decode cL_law 465 = .ok (.if_icmp .eq 972, 3) := by decide +kernel
theorem dL_law_468 : decode cL_law 468 = .ok (.iconst 0, 1) := by decide +kernel
theorem dL_law_469 : decode cL_law 469 = .ok (.ireturn, 1) := by decide +kernel
theorem dL_law_470 : decode cL_law 470 = .ok (.aload_n 1, 1) := by decide +kernel
theorem dL_law_471 : decode cL_law 471 = .ok (.aload_n 0, 1) := by decide +kernel
theorem dL_law_472 : decode cL_law 472 = .ok (.iload_n 3, 1) := by decide +kernel
theorem dL_law_473 : decode cL_law 473 = .ok (.iconst 1, 1) := by decide +kernel
theorem dL_law_474 : decode cL_law 474 = .ok (.iadd, 1) := by decide +kernel
theorem dL_law_475 : decode cL_law 475 = .ok (.iaload, 1) := by decide +kernel
theorem dL_law_476 : decode cL_law 476 = .ok (.aload_n 0, 1) := by decide +kernel
theorem dL_law_477 : decode cL_law 477 = .ok (.iload_n 3, 1) := by decide +kernel
theorem dL_law_478 : decode cL_law 478 = .ok (.iconst 2, 1) := by decide +kernel
theorem dL_law_479 : decode cL_law 479 = .ok (.iadd, 1) := by decide +kernel
theorem dL_law_480 : decode cL_law 480 = .ok (.iaload, 1) := by decide +kernel
theorem dL_law_481 : decode cL_law 481 = .ok (.invokevirtual 47, 3) := by decide +kernel
theorem dL_law_484 : decode cL_law 484 = .ok (.aload_n 2, 1) := by decide +kernel
theorem dL_law_485 : decode cL_law 485 = .ok (.aload_n 0, 1) := by decide +kernel
theorem dL_law_486 : decode cL_law 486 = .ok (.iload_n 3, 1) := by decide +kernel
theorem dL_law_487 : decode cL_law 487 = .ok (.iconst 1, 1) := by decide +kernel
theorem dL_law_488 : decode cL_law 488 = .ok (.iadd, 1) := by decide +kernel
theorem dL_law_489 : decode cL_law 489 = .ok (.iaload, 1) := by decide +kernel
theorem dL_law_490 : decode cL_law 490 = .ok (.aload_n 0, 1) := by decide +kernel
theorem dL_law_491 : decode cL_law 491 = .ok (.iload_n 3, 1) := by decide +kernel
theorem dL_law_492 : decode cL_law 492 = .ok (.iconst 2, 1) := by decide +kernel
theorem dL_law_493 : decode cL_law 493 = .ok (.iadd, 1) := by decide +kernel
theorem dL_law_494 : decode cL_law 494 = .ok (.iaload, 1) := by decide +kernel
theorem dL_law_495 : decode cL_law 495 = .ok (.invokevirtual 50, 3) := by decide +kernel
theorem dL_law_498 : decode cL_law 498 = .ok (.if_icmp .eq 939, 3) := by decide +kernel
theorem dL_law_501 : decode cL_law 501 = .ok (.iconst 0, 1) := by decide +kernel
theorem dL_law_502 : decode cL_law 502 = .ok (.ireturn, 1) := by decide +kernel
theorem dL_law_503 : decode cL_law 503 = .ok (.aload_n 1, 1) := by decide +kernel
theorem dL_law_504 : decode cL_law 504 = .ok (.aload_n 0, 1) := by decide +kernel
theorem dL_law_505 : decode cL_law 505 = .ok (.iload_n 3, 1) := by decide +kernel
theorem dL_law_506 : decode cL_law 506 = .ok (.iconst 1, 1) := by decide +kernel
theorem dL_law_507 : decode cL_law 507 = .ok (.iadd, 1) := by decide +kernel
theorem dL_law_508 : decode cL_law 508 = .ok (.iaload, 1) := by decide +kernel
theorem dL_law_509 : decode cL_law 509 = .ok (.invokevirtual 51, 3) := by decide +kernel
theorem dL_law_512 : decode cL_law 512 = .ok (.aload_n 2, 1) := by decide +kernel
theorem dL_law_513 : decode cL_law 513 = .ok (.aload_n 0, 1) := by decide +kernel
theorem dL_law_514 : decode cL_law 514 = .ok (.iload_n 3, 1) := by decide +kernel
theorem dL_law_515 : decode cL_law 515 = .ok (.iconst 1, 1) := by decide +kernel
theorem dL_law_516 : decode cL_law 516 = .ok (.iadd, 1) := by decide +kernel
theorem dL_law_517 : decode cL_law 517 = .ok (.iaload, 1) := by decide +kernel
theorem dL_law_518 : decode cL_law 518 = .ok (.invokevirtual 55, 3) := by decide +kernel
theorem dL_law_521 : decode cL_law 521 = .ok (.if_icmp .eq 916, 3) := by decide +kernel
theorem dL_law_524 : decode cL_law 524 = .ok (.iconst 0, 1) := by decide +kernel
theorem dL_law_525 : decode cL_law 525 = .ok (.ireturn, 1) := by decide +kernel
theorem dL_law_526 : decode cL_law 526 = .ok (.aload_n 1, 1) := by decide +kernel
theorem dL_law_527 : decode cL_law 527 = .ok (.aload_n 0, 1) := by decide +kernel
theorem dL_law_528 : decode cL_law 528 = .ok (.iload_n 3, 1) := by decide +kernel
theorem dL_law_529 : decode cL_law 529 = .ok (.iconst 1, 1) := by decide +kernel
theorem dL_law_530 : decode cL_law 530 = .ok (.iadd, 1) := by decide +kernel
theorem dL_law_531 : decode cL_law 531 = .ok (.iaload, 1) := by decide +kernel
theorem dL_law_532 : decode cL_law 532 = .ok (.i2l, 1) := by decide +kernel
theorem dL_law_533 : decode cL_law 533 = .ok (.bipush 32, 2) := by decide +kernel
theorem dL_law_535 : decode cL_law 535 = .ok (.lshl, 1) := by decide +kernel
theorem dL_law_536 : decode cL_law 536 = .ok (.aload_n 0, 1) := by decide +kernel
theorem dL_law_537 : decode cL_law 537 = .ok (.iload_n 3, 1) := by decide +kernel
theorem dL_law_538 : decode cL_law 538 = .ok (.iconst 2, 1) := by decide +kernel
theorem dL_law_539 : decode cL_law 539 = .ok (.iadd, 1) := by decide +kernel
theorem dL_law_540 : decode cL_law 540 = .ok (.iaload, 1) := by decide +kernel
theorem dL_law_541 : decode cL_law 541 = .ok (.i2l, 1) := by decide +kernel
theorem dL_law_542 : decode cL_law 542 = .ok (.ldc2_w 56, 3) := by decide +kernel
theorem dL_law_545 : decode cL_law 545 = .ok (.land, 1) := by decide +kernel
theorem dL_law_546 : decode cL_law 546 = .ok (.lor, 1) := by decide +kernel
theorem dL_law_547 : decode cL_law 547 = .ok (.aload_n 0, 1) := by decide +kernel
theorem dL_law_548 : decode cL_law 548 = .ok (.iload_n 3, 1) := by decide +kernel
theorem dL_law_549 : decode cL_law 549 = .ok (.iconst 3, 1) := by decide +kernel
theorem dL_law_550 : decode cL_law 550 = .ok (.iadd, 1) := by decide +kernel
theorem dL_law_551 : decode cL_law 551 = .ok (.iaload, 1) := by decide +kernel
theorem dL_law_552 : decode cL_law 552 = .ok (.invokevirtual 58, 3) := by decide +kernel
theorem dL_law_555 : decode cL_law 555 = .ok (.aload_n 2, 1) := by decide +kernel
theorem dL_law_556 : decode cL_law 556 = .ok (.aload_n 0, 1) := by decide +kernel
theorem dL_law_557 : decode cL_law 557 = .ok (.iload_n 3, 1) := by decide +kernel
theorem dL_law_558 : decode cL_law 558 = .ok (.iconst 1, 1) := by decide +kernel
theorem dL_law_559 : decode cL_law 559 = .ok (.iadd, 1) := by decide +kernel
theorem dL_law_560 : decode cL_law 560 = .ok (.iaload, 1) := by decide +kernel
theorem dL_law_561 : decode cL_law 561 = .ok (.i2l, 1) := by decide +kernel
theorem dL_law_562 : decode cL_law 562 = .ok (.bipush 32, 2) := by decide +kernel
theorem dL_law_564 : decode cL_law 564 = .ok (.lshl, 1) := by decide +kernel
theorem dL_law_565 : decode cL_law 565 = .ok (.aload_n 0, 1) := by decide +kernel
theorem dL_law_566 : decode cL_law 566 = .ok (.iload_n 3, 1) := by decide +kernel
theorem dL_law_567 : decode cL_law 567 = .ok (.iconst 2, 1) := by decide +kernel
theorem dL_law_568 : decode cL_law 568 = .ok (.iadd, 1) := by decide +kernel
theorem dL_law_569 : decode cL_law 569 = .ok (.iaload, 1) := by decide +kernel
theorem dL_law_570 : decode cL_law 570 = .ok (.i2l, 1) := by decide +kernel
theorem dL_law_571 : decode cL_law 571 = .ok (.ldc2_w 56, 3) := by decide +kernel
theorem dL_law_574 : decode cL_law 574 = .ok (.land, 1) := by decide +kernel
theorem dL_law_575 : decode cL_law 575 = .ok (.lor, 1) := by decide +kernel
theorem dL_law_576 : decode cL_law 576 = .ok (.aload_n 0, 1) := by decide +kernel
theorem dL_law_577 : decode cL_law 577 = .ok (.iload_n 3, 1) := by decide +kernel
theorem dL_law_578 : decode cL_law 578 = .ok (.iconst 3, 1) := by decide +kernel
theorem dL_law_579 : decode cL_law 579 = .ok (.iadd, 1) := by decide +kernel
theorem dL_law_580 : decode cL_law 580 = .ok (.iaload, 1) := by decide +kernel
theorem dL_law_581 : decode cL_law 581 = .ok (.invokevirtual 62, 3) := by decide +kernel
theorem dL_law_584 : decode cL_law 584 = .ok (.if_icmp .eq 853, 3) := by decide +kernel
theorem dL_law_587 : decode cL_law 587 = .ok (.iconst 0, 1) := by decide +kernel
theorem dL_law_588 : decode cL_law 588 = .ok (.ireturn, 1) := by decide +kernel
theorem dL_law_589 : decode cL_law 589 = .ok (.aload_n 1, 1) := by decide +kernel
theorem dL_law_590 : decode cL_law 590 = .ok (.aload_n 0, 1) := by decide +kernel
theorem dL_law_591 : decode cL_law 591 = .ok (.iload_n 3, 1) := by decide +kernel
theorem dL_law_592 : decode cL_law 592 = .ok (.iconst 1, 1) := by decide +kernel
theorem dL_law_593 : decode cL_law 593 = .ok (.iadd, 1) := by decide +kernel
theorem dL_law_594 : decode cL_law 594 = .ok (.iaload, 1) := by decide +kernel
theorem dL_law_595 : decode cL_law 595 = .ok (.invokevirtual 63, 3) := by decide +kernel
theorem dL_law_598 : decode cL_law 598 = .ok (.aload_n 2, 1) := by decide +kernel
theorem dL_law_599 : decode cL_law 599 = .ok (.aload_n 0, 1) := by decide +kernel
theorem dL_law_600 : decode cL_law 600 = .ok (.iload_n 3, 1) := by decide +kernel
theorem dL_law_601 : decode cL_law 601 = .ok (.iconst 1, 1) := by decide +kernel
theorem dL_law_602 : decode cL_law 602 = .ok (.iadd, 1) := by decide +kernel
theorem dL_law_603 : decode cL_law 603 = .ok (.iaload, 1) := by decide +kernel
theorem dL_law_604 : decode cL_law 604 = .ok (.invokevirtual 66, 3) := by decide +kernel
theorem dL_law_607 : decode cL_law 607 = .ok (.if_icmp .eq 830, 3) := by decide +kernel
theorem dL_law_610 : decode cL_law 610 = .ok (.iconst 0, 1) := by decide +kernel
theorem dL_law_611 : decode cL_law 611 = .ok (.ireturn, 1) := by decide +kernel
theorem dL_law_612 : decode cL_law 612 = .ok (.aload_n 1, 1) := by decide +kernel
theorem dL_law_613 : decode cL_law 613 = .ok (.aload_n 0, 1) := by decide +kernel
theorem dL_law_614 : decode cL_law 614 = .ok (.iload_n 3, 1) := by decide +kernel
theorem dL_law_615 : decode cL_law 615 = .ok (.iconst 1, 1) := by decide +kernel
theorem dL_law_616 : decode cL_law 616 = .ok (.iadd, 1) := by decide +kernel
theorem dL_law_617 : decode cL_law 617 = .ok (.iaload, 1) := by decide +kernel
theorem dL_law_618 : decode cL_law 618 = .ok (.invokevirtual 67, 3) := by decide +kernel
theorem dL_law_621 : decode cL_law 621 = .ok (.aload_n 2, 1) := by decide +kernel
theorem dL_law_622 : decode cL_law 622 = .ok (.aload_n 0, 1) := by decide +kernel
theorem dL_law_623 : decode cL_law 623 = .ok (.iload_n 3, 1) := by decide +kernel
theorem dL_law_624 : decode cL_law 624 = .ok (.iconst 1, 1) := by decide +kernel
theorem dL_law_625 : decode cL_law 625 = .ok (.iadd, 1) := by decide +kernel
theorem dL_law_626 : decode cL_law 626 = .ok (.iaload, 1) := by decide +kernel
theorem dL_law_627 : decode cL_law 627 = .ok (.invokevirtual 70, 3) := by decide +kernel
theorem dL_law_630 : decode cL_law 630 = .ok (.if_icmp .eq 807, 3) := by decide +kernel
theorem dL_law_633 : decode cL_law 633 = .ok (.iconst 0, 1) := by decide +kernel
theorem dL_law_634 : decode cL_law 634 = .ok (.ireturn, 1) := by decide +kernel
theorem dL_law_635 : decode cL_law 635 = .ok (.aload_n 1, 1) := by decide +kernel
theorem dL_law_636 : decode cL_law 636 = .ok (.aload_n 0, 1) := by decide +kernel
theorem dL_law_637 : decode cL_law 637 = .ok (.iload_n 3, 1) := by decide +kernel
theorem dL_law_638 : decode cL_law 638 = .ok (.iconst 1, 1) := by decide +kernel
theorem dL_law_639 : decode cL_law 639 = .ok (.iadd, 1) := by decide +kernel
theorem dL_law_640 : decode cL_law 640 = .ok (.iaload, 1) := by decide +kernel
theorem dL_law_641 : decode cL_law 641 = .ok (.aload_n 0, 1) := by decide +kernel
theorem dL_law_642 : decode cL_law 642 = .ok (.iload_n 3, 1) := by decide +kernel
theorem dL_law_643 : decode cL_law 643 = .ok (.iconst 2, 1) := by decide +kernel
theorem dL_law_644 : decode cL_law 644 = .ok (.iadd, 1) := by decide +kernel
theorem dL_law_645 : decode cL_law 645 = .ok (.iaload, 1) := by decide +kernel
theorem dL_law_646 : decode cL_law 646 = .ok (.aload_n 0, 1) := by decide +kernel
theorem dL_law_647 : decode cL_law 647 = .ok (.iload_n 3, 1) := by decide +kernel
theorem dL_law_648 : decode cL_law 648 = .ok (.iconst 3, 1) := by decide +kernel
theorem dL_law_649 : decode cL_law 649 = .ok (.iadd, 1) := by decide +kernel
theorem dL_law_650 : decode cL_law 650 = .ok (.iaload, 1) := by decide +kernel
theorem dL_law_651 : decode cL_law 651 = .ok (.aload_n 0, 1) := by decide +kernel
theorem dL_law_652 : decode cL_law 652 = .ok (.iload_n 3, 1) := by decide +kernel
theorem dL_law_653 : decode cL_law 653 = .ok (.iconst 4, 1) := by decide +kernel
theorem dL_law_654 : decode cL_law 654 = .ok (.iadd, 1) := by decide +kernel
theorem dL_law_655 : decode cL_law 655 = .ok (.iaload, 1) := by decide +kernel
theorem dL_law_656 : decode cL_law 656 = .ok (.invokevirtual 71, 3) := by decide +kernel
theorem dL_law_659 : decode cL_law 659 = .ok (.aload_n 2, 1) := by decide +kernel
theorem dL_law_660 : decode cL_law 660 = .ok (.aload_n 0, 1) := by decide +kernel
theorem dL_law_661 : decode cL_law 661 = .ok (.iload_n 3, 1) := by decide +kernel
theorem dL_law_662 : decode cL_law 662 = .ok (.iconst 1, 1) := by decide +kernel
theorem dL_law_663 : decode cL_law 663 = .ok (.iadd, 1) := by decide +kernel
theorem dL_law_664 : decode cL_law 664 = .ok (.iaload, 1) := by decide +kernel
theorem dL_law_665 : decode cL_law 665 = .ok (.aload_n 0, 1) := by decide +kernel
theorem dL_law_666 : decode cL_law 666 = .ok (.iload_n 3, 1) := by decide +kernel
theorem dL_law_667 : decode cL_law 667 = .ok (.iconst 2, 1) := by decide +kernel
theorem dL_law_668 : decode cL_law 668 = .ok (.iadd, 1) := by decide +kernel
theorem dL_law_669 : decode cL_law 669 = .ok (.iaload, 1) := by decide +kernel
theorem dL_law_670 : decode cL_law 670 = .ok (.aload_n 0, 1) := by decide +kernel
theorem dL_law_671 : decode cL_law 671 = .ok (.iload_n 3, 1) := by decide +kernel
theorem dL_law_672 : decode cL_law 672 = .ok (.iconst 3, 1) := by decide +kernel
theorem dL_law_673 : decode cL_law 673 = .ok (.iadd, 1) := by decide +kernel
theorem dL_law_674 : decode cL_law 674 = .ok (.iaload, 1) := by decide +kernel
theorem dL_law_675 : decode cL_law 675 = .ok (.aload_n 0, 1) := by decide +kernel
theorem dL_law_676 : decode cL_law 676 = .ok (.iload_n 3, 1) := by decide +kernel
theorem dL_law_677 : decode cL_law 677 = .ok (.iconst 4, 1) := by decide +kernel
theorem dL_law_678 : decode cL_law 678 = .ok (.iadd, 1) := by decide +kernel
theorem dL_law_679 : decode cL_law 679 = .ok (.iaload, 1) := by decide +kernel
theorem dL_law_680 : decode cL_law 680 = .ok (.invokevirtual 75, 3) := by decide +kernel
theorem dL_law_683 : decode cL_law 683 = .ok (.if_icmp .eq 754, 3) := by decide +kernel
theorem dL_law_686 : decode cL_law 686 = .ok (.iconst 0, 1) := by decide +kernel
theorem dL_law_687 : decode cL_law 687 = .ok (.ireturn, 1) := by decide +kernel
theorem dL_law_688 : decode cL_law 688 = .ok (.aload_n 1, 1) := by decide +kernel
theorem dL_law_689 : decode cL_law 689 = .ok (.aload_n 0, 1) := by decide +kernel
theorem dL_law_690 : decode cL_law 690 = .ok (.iload_n 3, 1) := by decide +kernel
theorem dL_law_691 : decode cL_law 691 = .ok (.iconst 1, 1) := by decide +kernel
theorem dL_law_692 : decode cL_law 692 = .ok (.iadd, 1) := by decide +kernel
theorem dL_law_693 : decode cL_law 693 = .ok (.iaload, 1) := by decide +kernel
theorem dL_law_694 : decode cL_law 694 = .ok (.aload_n 0, 1) := by decide +kernel
theorem dL_law_695 : decode cL_law 695 = .ok (.iload_n 3, 1) := by decide +kernel
theorem dL_law_696 : decode cL_law 696 = .ok (.iconst 2, 1) := by decide +kernel
theorem dL_law_697 : decode cL_law 697 = .ok (.iadd, 1) := by decide +kernel
theorem dL_law_698 : decode cL_law 698 = .ok (.iaload, 1) := by decide +kernel
theorem dL_law_699 : decode cL_law 699 = .ok (.invokevirtual 76, 3) := by decide +kernel
theorem dL_law_702 : decode cL_law 702 = .ok (.aload_n 2, 1) := by decide +kernel
theorem dL_law_703 : decode cL_law 703 = .ok (.aload_n 0, 1) := by decide +kernel
theorem dL_law_704 : decode cL_law 704 = .ok (.iload_n 3, 1) := by decide +kernel
theorem dL_law_705 : decode cL_law 705 = .ok (.iconst 1, 1) := by decide +kernel
theorem dL_law_706 : decode cL_law 706 = .ok (.iadd, 1) := by decide +kernel
theorem dL_law_707 : decode cL_law 707 = .ok (.iaload, 1) := by decide +kernel
theorem dL_law_708 : decode cL_law 708 = .ok (.aload_n 0, 1) := by decide +kernel
theorem dL_law_709 : decode cL_law 709 = .ok (.iload_n 3, 1) := by decide +kernel
theorem dL_law_710 : decode cL_law 710 = .ok (.iconst 2, 1) := by decide +kernel
theorem dL_law_711 : decode cL_law 711 = .ok (.iadd, 1) := by decide +kernel
theorem dL_law_712 : decode cL_law 712 = .ok (.iaload, 1) := by decide +kernel
theorem dL_law_713 : decode cL_law 713 = .ok (.invokevirtual 79, 3) := by decide +kernel
theorem dL_law_716 : decode cL_law 716 = .ok (.if_icmp .eq 721, 3) := by decide +kernel
theorem dL_law_719 : decode cL_law 719 = .ok (.iconst 0, 1) := by decide +kernel
theorem dL_law_720 : decode cL_law 720 = .ok (.ireturn, 1) := by decide +kernel
theorem dL_law_721 : decode cL_law 721 = .ok (.aload_n 1, 1) := by decide +kernel
theorem dL_law_722 : decode cL_law 722 = .ok (.aload_n 0, 1) := by decide +kernel
theorem dL_law_723 : decode cL_law 723 = .ok (.iload_n 3, 1) := by decide +kernel
theorem dL_law_724 : decode cL_law 724 = .ok (.iconst 1, 1) := by decide +kernel
theorem dL_law_725 : decode cL_law 725 = .ok (.iadd, 1) := by decide +kernel
theorem dL_law_726 : decode cL_law 726 = .ok (.iaload, 1) := by decide +kernel
theorem dL_law_727 : decode cL_law 727 = .ok (.aload_n 0, 1) := by decide +kernel
theorem dL_law_728 : decode cL_law 728 = .ok (.iload_n 3, 1) := by decide +kernel
theorem dL_law_729 : decode cL_law 729 = .ok (.iconst 2, 1) := by decide +kernel
theorem dL_law_730 : decode cL_law 730 = .ok (.iadd, 1) := by decide +kernel
theorem dL_law_731 : decode cL_law 731 = .ok (.iaload, 1) := by decide +kernel
theorem dL_law_732 : decode cL_law 732 = .ok (.aload_n 0, 1) := by decide +kernel
theorem dL_law_733 : decode cL_law 733 = .ok (.iload_n 3, 1) := by decide +kernel
theorem dL_law_734 : decode cL_law 734 = .ok (.iconst 3, 1) := by decide +kernel
theorem dL_law_735 : decode cL_law 735 = .ok (.iadd, 1) := by decide +kernel
theorem dL_law_736 : decode cL_law 736 = .ok (.iaload, 1) := by decide +kernel
theorem dL_law_737 : decode cL_law 737 = .ok (.aload_n 0, 1) := by decide +kernel
theorem dL_law_738 : decode cL_law 738 = .ok (.iload_n 3, 1) := by decide +kernel
theorem dL_law_739 : decode cL_law 739 = .ok (.iconst 4, 1) := by decide +kernel
theorem dL_law_740 : decode cL_law 740 = .ok (.iadd, 1) := by decide +kernel
theorem dL_law_741 : decode cL_law 741 = .ok (.iaload, 1) := by decide +kernel
theorem dL_law_742 : decode cL_law 742 = .ok (.invokevirtual 80, 3) := by decide +kernel
theorem dL_law_745 : decode cL_law 745 = .ok (.aload_n 2, 1) := by decide +kernel
theorem dL_law_746 : decode cL_law 746 = .ok (.aload_n 0, 1) := by decide +kernel
theorem dL_law_747 : decode cL_law 747 = .ok (.iload_n 3, 1) := by decide +kernel
theorem dL_law_748 : decode cL_law 748 = .ok (.iconst 1, 1) := by decide +kernel
theorem dL_law_749 : decode cL_law 749 = .ok (.iadd, 1) := by decide +kernel
theorem dL_law_750 : decode cL_law 750 = .ok (.iaload, 1) := by decide +kernel
theorem dL_law_751 : decode cL_law 751 = .ok (.aload_n 0, 1) := by decide +kernel
theorem dL_law_752 : decode cL_law 752 = .ok (.iload_n 3, 1) := by decide +kernel
theorem dL_law_753 : decode cL_law 753 = .ok (.iconst 2, 1) := by decide +kernel
theorem dL_law_754 : decode cL_law 754 = .ok (.iadd, 1) := by decide +kernel
theorem dL_law_755 : decode cL_law 755 = .ok (.iaload, 1) := by decide +kernel
theorem dL_law_756 : decode cL_law 756 = .ok (.aload_n 0, 1) := by decide +kernel
theorem dL_law_757 : decode cL_law 757 = .ok (.iload_n 3, 1) := by decide +kernel
theorem dL_law_758 : decode cL_law 758 = .ok (.iconst 3, 1) := by decide +kernel
theorem dL_law_759 : decode cL_law 759 = .ok (.iadd, 1) := by decide +kernel
theorem dL_law_760 : decode cL_law 760 = .ok (.iaload, 1) := by decide +kernel
theorem dL_law_761 : decode cL_law 761 = .ok (.aload_n 0, 1) := by decide +kernel
theorem dL_law_762 : decode cL_law 762 = .ok (.iload_n 3, 1) := by decide +kernel
theorem dL_law_763 : decode cL_law 763 = .ok (.iconst 4, 1) := by decide +kernel
theorem dL_law_764 : decode cL_law 764 = .ok (.iadd, 1) := by decide +kernel
theorem dL_law_765 : decode cL_law 765 = .ok (.iaload, 1) := by decide +kernel
theorem dL_law_766 : decode cL_law 766 = .ok (.invokevirtual 83, 3) := by decide +kernel
theorem dL_law_769 : decode cL_law 769 = .ok (.if_icmp .eq 668, 3) := by decide +kernel
theorem dL_law_772 : decode cL_law 772 = .ok (.iconst 0, 1) := by decide +kernel
theorem dL_law_773 : decode cL_law 773 = .ok (.ireturn, 1) := by decide +kernel
theorem dL_law_774 : decode cL_law 774 = .ok (.aload_n 1, 1) := by decide +kernel
theorem dL_law_775 : decode cL_law 775 = .ok (.aload_n 0, 1) := by decide +kernel
theorem dL_law_776 : decode cL_law 776 = .ok (.iload_n 3, 1) := by decide +kernel
theorem dL_law_777 : decode cL_law 777 = .ok (.iconst 1, 1) := by decide +kernel
theorem dL_law_778 : decode cL_law 778 = .ok (.iadd, 1) := by decide +kernel
theorem dL_law_779 : decode cL_law 779 = .ok (.iaload, 1) := by decide +kernel
theorem dL_law_780 : decode cL_law 780 = .ok (.aload_n 0, 1) := by decide +kernel
theorem dL_law_781 : decode cL_law 781 = .ok (.iload_n 3, 1) := by decide +kernel
theorem dL_law_782 : decode cL_law 782 = .ok (.iconst 2, 1) := by decide +kernel
theorem dL_law_783 : decode cL_law 783 = .ok (.iadd, 1) := by decide +kernel
theorem dL_law_784 : decode cL_law 784 = .ok (.iaload, 1) := by decide +kernel
theorem dL_law_785 : decode cL_law 785 = .ok (.invokevirtual 84, 3) := by decide +kernel
theorem dL_law_788 : decode cL_law 788 = .ok (.aload_n 2, 1) := by decide +kernel
theorem dL_law_789 : decode cL_law 789 = .ok (.aload_n 0, 1) := by decide +kernel
theorem dL_law_790 : decode cL_law 790 = .ok (.iload_n 3, 1) := by decide +kernel
theorem dL_law_791 : decode cL_law 791 = .ok (.iconst 1, 1) := by decide +kernel
theorem dL_law_792 : decode cL_law 792 = .ok (.iadd, 1) := by decide +kernel
theorem dL_law_793 : decode cL_law 793 = .ok (.iaload, 1) := by decide +kernel
theorem dL_law_794 : decode cL_law 794 = .ok (.aload_n 0, 1) := by decide +kernel
theorem dL_law_795 : decode cL_law 795 = .ok (.iload_n 3, 1) := by decide +kernel
theorem dL_law_796 : decode cL_law 796 = .ok (.iconst 2, 1) := by decide +kernel
theorem dL_law_797 : decode cL_law 797 = .ok (.iadd, 1) := by decide +kernel
theorem dL_law_798 : decode cL_law 798 = .ok (.iaload, 1) := by decide +kernel
theorem dL_law_799 : decode cL_law 799 = .ok (.invokevirtual 87, 3) := by decide +kernel
theorem dL_law_802 : decode cL_law 802 = .ok (.if_icmp .eq 635, 3) := by decide +kernel
theorem dL_law_805 : decode cL_law 805 = .ok (.iconst 0, 1) := by decide +kernel
theorem dL_law_806 : decode cL_law 806 = .ok (.ireturn, 1) := by decide +kernel
theorem dL_law_807 : decode cL_law 807 = .ok (.aload_n 1, 1) := by decide +kernel
theorem dL_law_808 : decode cL_law 808 = .ok (.aload_n 0, 1) := by decide +kernel
theorem dL_law_809 : decode cL_law 809 = .ok (.iload_n 3, 1) := by decide +kernel
theorem dL_law_810 : decode cL_law 810 = .ok (.iconst 1, 1) := by decide +kernel
theorem dL_law_811 : decode cL_law 811 = .ok (.iadd, 1) := by decide +kernel
theorem dL_law_812 : decode cL_law 812 = .ok (.iaload, 1) := by decide +kernel
theorem dL_law_813 : decode cL_law 813 = .ok (.invokevirtual 88, 3) := by decide +kernel
theorem dL_law_816 : decode cL_law 816 = .ok (.aload_n 2, 1) := by decide +kernel
theorem dL_law_817 : decode cL_law 817 = .ok (.aload_n 0, 1) := by decide +kernel
theorem dL_law_818 : decode cL_law 818 = .ok (.iload_n 3, 1) := by decide +kernel
theorem dL_law_819 : decode cL_law 819 = .ok (.iconst 1, 1) := by decide +kernel
theorem dL_law_820 : decode cL_law 820 = .ok (.iadd, 1) := by decide +kernel
theorem dL_law_821 : decode cL_law 821 = .ok (.iaload, 1) := by decide +kernel
theorem dL_law_822 : decode cL_law 822 = .ok (.invokevirtual 91, 3) := by decide +kernel
theorem dL_law_825 : decode cL_law 825 = .ok (.if_icmp .eq 612, 3) := by decide +kernel
theorem dL_law_828 : decode cL_law 828 = .ok (.iconst 0, 1) := by decide +kernel
theorem dL_law_829 : decode cL_law 829 = .ok (.ireturn, 1) := by decide +kernel
theorem dL_law_830 : decode cL_law 830 = .ok (.aload_n 1, 1) := by decide +kernel
theorem dL_law_831 : decode cL_law 831 = .ok (.aload_n 0, 1) := by decide +kernel
theorem dL_law_832 : decode cL_law 832 = .ok (.iload_n 3, 1) := by decide +kernel
theorem dL_law_833 : decode cL_law 833 = .ok (.iconst 1, 1) := by decide +kernel
theorem dL_law_834 : decode cL_law 834 = .ok (.iadd, 1) := by decide +kernel
theorem dL_law_835 : decode cL_law 835 = .ok (.iaload, 1) := by decide +kernel
theorem dL_law_836 : decode cL_law 836 = .ok (.invokevirtual 92, 3) := by decide +kernel
theorem dL_law_839 : decode cL_law 839 = .ok (.aload_n 2, 1) := by decide +kernel
theorem dL_law_840 : decode cL_law 840 = .ok (.aload_n 0, 1) := by decide +kernel
theorem dL_law_841 : decode cL_law 841 = .ok (.iload_n 3, 1) := by decide +kernel
theorem dL_law_842 : decode cL_law 842 = .ok (.iconst 1, 1) := by decide +kernel
theorem dL_law_843 : decode cL_law 843 = .ok (.iadd, 1) := by decide +kernel
theorem dL_law_844 : decode cL_law 844 = .ok (.iaload, 1) := by decide +kernel
theorem dL_law_845 : decode cL_law 845 = .ok (.invokevirtual 95, 3) := by decide +kernel
theorem dL_law_848 : decode cL_law 848 = .ok (.if_icmp .eq 589, 3) := by decide +kernel
theorem dL_law_851 : decode cL_law 851 = .ok (.iconst 0, 1) := by decide +kernel
theorem dL_law_852 : decode cL_law 852 = .ok (.ireturn, 1) := by decide +kernel
theorem dL_law_853 : decode cL_law 853 = .ok (.aload_n 1, 1) := by decide +kernel
theorem dL_law_854 : decode cL_law 854 = .ok (.aload_n 0, 1) := by decide +kernel
theorem dL_law_855 : decode cL_law 855 = .ok (.iload_n 3, 1) := by decide +kernel
theorem dL_law_856 : decode cL_law 856 = .ok (.iconst 1, 1) := by decide +kernel
theorem dL_law_857 : decode cL_law 857 = .ok (.iadd, 1) := by decide +kernel
theorem dL_law_858 : decode cL_law 858 = .ok (.iaload, 1) := by decide +kernel
theorem dL_law_859 : decode cL_law 859 = .ok (.invokevirtual 96, 3) := by decide +kernel
theorem dL_law_862 : decode cL_law 862 = .ok (.aload_n 2, 1) := by decide +kernel
theorem dL_law_863 : decode cL_law 863 = .ok (.aload_n 0, 1) := by decide +kernel
theorem dL_law_864 : decode cL_law 864 = .ok (.iload_n 3, 1) := by decide +kernel
theorem dL_law_865 : decode cL_law 865 = .ok (.iconst 1, 1) := by decide +kernel
theorem dL_law_866 : decode cL_law 866 = .ok (.iadd, 1) := by decide +kernel
theorem dL_law_867 : decode cL_law 867 = .ok (.iaload, 1) := by decide +kernel
theorem dL_law_868 : decode cL_law 868 = .ok (.invokevirtual 99, 3) := by decide +kernel
theorem dL_law_871 : decode cL_law 871 = .ok (.if_icmp .eq 566, 3) := by decide +kernel
theorem dL_law_874 : decode cL_law 874 = .ok (.iconst 0, 1) := by decide +kernel
theorem dL_law_875 : decode cL_law 875 = .ok (.ireturn, 1) := by decide +kernel
theorem dL_law_876 : decode cL_law 876 = .ok (.aload_n 1, 1) := by decide +kernel
theorem dL_law_877 : decode cL_law 877 = .ok (.aload_n 0, 1) := by decide +kernel
theorem dL_law_878 : decode cL_law 878 = .ok (.iload_n 3, 1) := by decide +kernel
theorem dL_law_879 : decode cL_law 879 = .ok (.iconst 1, 1) := by decide +kernel
theorem dL_law_880 : decode cL_law 880 = .ok (.iadd, 1) := by decide +kernel
theorem dL_law_881 : decode cL_law 881 = .ok (.iaload, 1) := by decide +kernel
theorem dL_law_882 : decode cL_law 882 = .ok (.aload_n 0, 1) := by decide +kernel
theorem dL_law_883 : decode cL_law 883 = .ok (.iload_n 3, 1) := by decide +kernel
theorem dL_law_884 : decode cL_law 884 = .ok (.iconst 2, 1) := by decide +kernel
theorem dL_law_885 : decode cL_law 885 = .ok (.iadd, 1) := by decide +kernel
theorem dL_law_886 : decode cL_law 886 = .ok (.iaload, 1) := by decide +kernel
theorem dL_law_887 : decode cL_law 887 = .ok (.aload_n 0, 1) := by decide +kernel
theorem dL_law_888 : decode cL_law 888 = .ok (.iload_n 3, 1) := by decide +kernel
theorem dL_law_889 : decode cL_law 889 = .ok (.iconst 3, 1) := by decide +kernel
theorem dL_law_890 : decode cL_law 890 = .ok (.iadd, 1) := by decide +kernel
theorem dL_law_891 : decode cL_law 891 = .ok (.iaload, 1) := by decide +kernel
theorem dL_law_892 : decode cL_law 892 = .ok (.aload_n 0, 1) := by decide +kernel
theorem dL_law_893 : decode cL_law 893 = .ok (.iload_n 3, 1) := by decide +kernel
theorem dL_law_894 : decode cL_law 894 = .ok (.iconst 4, 1) := by decide +kernel
theorem dL_law_895 : decode cL_law 895 = .ok (.iadd, 1) := by decide +kernel
theorem dL_law_896 : decode cL_law 896 = .ok (.iaload, 1) := by decide +kernel
theorem dL_law_897 : decode cL_law 897 = .ok (.invokevirtual 100, 3) := by decide +kernel
theorem dL_law_900 : decode cL_law 900 = .ok (.aload_n 2, 1) := by decide +kernel
theorem dL_law_901 : decode cL_law 901 = .ok (.aload_n 0, 1) := by decide +kernel
theorem dL_law_902 : decode cL_law 902 = .ok (.iload_n 3, 1) := by decide +kernel
theorem dL_law_903 : decode cL_law 903 = .ok (.iconst 1, 1) := by decide +kernel
theorem dL_law_904 : decode cL_law 904 = .ok (.iadd, 1) := by decide +kernel
theorem dL_law_905 : decode cL_law 905 = .ok (.iaload, 1) := by decide +kernel
theorem dL_law_906 : decode cL_law 906 = .ok (.aload_n 0, 1) := by decide +kernel
theorem dL_law_907 : decode cL_law 907 = .ok (.iload_n 3, 1) := by decide +kernel
theorem dL_law_908 : decode cL_law 908 = .ok (.iconst 2, 1) := by decide +kernel
theorem dL_law_909 : decode cL_law 909 = .ok (.iadd, 1) := by decide +kernel
theorem dL_law_910 : decode cL_law 910 = .ok (.iaload, 1) := by decide +kernel
theorem dL_law_911 : decode cL_law 911 = .ok (.aload_n 0, 1) := by decide +kernel
theorem dL_law_912 : decode cL_law 912 = .ok (.iload_n 3, 1) := by decide +kernel
theorem dL_law_913 : decode cL_law 913 = .ok (.iconst 3, 1) := by decide +kernel
theorem dL_law_914 : decode cL_law 914 = .ok (.iadd, 1) := by decide +kernel
theorem dL_law_915 : decode cL_law 915 = .ok (.iaload, 1) := by decide +kernel
theorem dL_law_916 : decode cL_law 916 = .ok (.aload_n 0, 1) := by decide +kernel
theorem dL_law_917 : decode cL_law 917 = .ok (.iload_n 3, 1) := by decide +kernel
theorem dL_law_918 : decode cL_law 918 = .ok (.iconst 4, 1) := by decide +kernel
theorem dL_law_919 : decode cL_law 919 = .ok (.iadd, 1) := by decide +kernel
theorem dL_law_920 : decode cL_law 920 = .ok (.iaload, 1) := by decide +kernel
theorem dL_law_921 : decode cL_law 921 = .ok (.invokevirtual 103, 3) := by decide +kernel
theorem dL_law_924 : decode cL_law 924 = .ok (.if_icmp .eq 513, 3) := by decide +kernel
theorem dL_law_927 : decode cL_law 927 = .ok (.iconst 0, 1) := by decide +kernel
theorem dL_law_928 : decode cL_law 928 = .ok (.ireturn, 1) := by decide +kernel
theorem dL_law_929 : decode cL_law 929 = .ok (.aload_n 1, 1) := by decide +kernel
theorem dL_law_930 : decode cL_law 930 = .ok (.aload_n 0, 1) := by decide +kernel
theorem dL_law_931 : decode cL_law 931 = .ok (.iload_n 3, 1) := by decide +kernel
theorem dL_law_932 : decode cL_law 932 = .ok (.iconst 1, 1) := by decide +kernel
theorem dL_law_933 : decode cL_law 933 = .ok (.iadd, 1) := by decide +kernel
theorem dL_law_934 : decode cL_law 934 = .ok (.iaload, 1) := by decide +kernel
theorem dL_law_935 : decode cL_law 935 = .ok (.aload_n 0, 1) := by decide +kernel
theorem dL_law_936 : decode cL_law 936 = .ok (.iload_n 3, 1) := by decide +kernel
theorem dL_law_937 : decode cL_law 937 = .ok (.iconst 2, 1) := by decide +kernel
theorem dL_law_938 : decode cL_law 938 = .ok (.iadd, 1) := by decide +kernel
theorem dL_law_939 : decode cL_law 939 = .ok (.iaload, 1) := by decide +kernel
theorem dL_law_940 : decode cL_law 940 = .ok (.aload_n 0, 1) := by decide +kernel
theorem dL_law_941 : decode cL_law 941 = .ok (.iload_n 3, 1) := by decide +kernel
theorem dL_law_942 : decode cL_law 942 = .ok (.iconst 3, 1) := by decide +kernel
theorem dL_law_943 : decode cL_law 943 = .ok (.iadd, 1) := by decide +kernel
theorem dL_law_944 : decode cL_law 944 = .ok (.iaload, 1) := by decide +kernel
theorem dL_law_945 : decode cL_law 945 = .ok (.aload_n 0, 1) := by decide +kernel
theorem dL_law_946 : decode cL_law 946 = .ok (.iload_n 3, 1) := by decide +kernel
theorem dL_law_947 : decode cL_law 947 = .ok (.iconst 4, 1) := by decide +kernel
theorem dL_law_948 : decode cL_law 948 = .ok (.iadd, 1) := by decide +kernel
theorem dL_law_949 : decode cL_law 949 = .ok (.iaload, 1) := by decide +kernel
theorem dL_law_950 : decode cL_law 950 = .ok (.aload_n 0, 1) := by decide +kernel
theorem dL_law_951 : decode cL_law 951 = .ok (.iload_n 3, 1) := by decide +kernel
theorem dL_law_952 : decode cL_law 952 = .ok (.iconst 5, 1) := by decide +kernel
theorem dL_law_953 : decode cL_law 953 = .ok (.iadd, 1) := by decide +kernel
theorem dL_law_954 : decode cL_law 954 = .ok (.iaload, 1) := by decide +kernel
theorem dL_law_955 : decode cL_law 955 = .ok (.invokevirtual 104, 3) := by decide +kernel
theorem dL_law_958 : decode cL_law 958 = .ok (.aload_n 2, 1) := by decide +kernel
theorem dL_law_959 : decode cL_law 959 = .ok (.aload_n 0, 1) := by decide +kernel
theorem dL_law_960 : decode cL_law 960 = .ok (.iload_n 3, 1) := by decide +kernel
theorem dL_law_961 : decode cL_law 961 = .ok (.iconst 1, 1) := by decide +kernel
theorem dL_law_962 : decode cL_law 962 = .ok (.iadd, 1) := by decide +kernel
theorem dL_law_963 : decode cL_law 963 = .ok (.iaload, 1) := by decide +kernel
theorem dL_law_964 : decode cL_law 964 = .ok (.aload_n 0, 1) := by decide +kernel
theorem dL_law_965 : decode cL_law 965 = .ok (.iload_n 3, 1) := by decide +kernel
theorem dL_law_966 : decode cL_law 966 = .ok (.iconst 2, 1) := by decide +kernel
theorem dL_law_967 : decode cL_law 967 = .ok (.iadd, 1) := by decide +kernel
theorem dL_law_968 : decode cL_law 968 = .ok (.iaload, 1) := by decide +kernel
theorem dL_law_969 : decode cL_law 969 = .ok (.aload_n 0, 1) := by decide +kernel
theorem dL_law_970 : decode cL_law 970 = .ok (.iload_n 3, 1) := by decide +kernel
theorem dL_law_971 : decode cL_law 971 = .ok (.iconst 3, 1) := by decide +kernel
theorem dL_law_972 : decode cL_law 972 = .ok (.iadd, 1) := by decide +kernel
theorem dL_law_973 : decode cL_law 973 = .ok (.iaload, 1) := by decide +kernel
theorem dL_law_974 : decode cL_law 974 = .ok (.aload_n 0, 1) := by decide +kernel
theorem dL_law_975 : decode cL_law 975 = .ok (.iload_n 3, 1) := by decide +kernel
theorem dL_law_976 : decode cL_law 976 = .ok (.iconst 4, 1) := by decide +kernel
theorem dL_law_977 : decode cL_law 977 = .ok (.iadd, 1) := by decide +kernel
theorem dL_law_978 : decode cL_law 978 = .ok (.iaload, 1) := by decide +kernel
theorem dL_law_979 : decode cL_law 979 = .ok (.aload_n 0, 1) := by decide +kernel
theorem dL_law_980 : decode cL_law 980 = .ok (.iload_n 3, 1) := by decide +kernel
theorem dL_law_981 : decode cL_law 981 = .ok (.iconst 5, 1) := by decide +kernel
theorem dL_law_982 : decode cL_law 982 = .ok (.iadd, 1) := by decide +kernel
theorem dL_law_983 : decode cL_law 983 = .ok (.iaload, 1) := by decide +kernel
theorem dL_law_984 : decode cL_law 984 = .ok (.invokevirtual 108, 3) := by decide +kernel
theorem dL_law_987 : decode cL_law 987 = .ok (.if_icmp .eq 450, 3) := by decide +kernel
theorem dL_law_990 : decode cL_law 990 = .ok (.iconst 0, 1) := by decide +kernel
theorem dL_law_991 : decode cL_law 991 = .ok (.ireturn, 1) := by decide +kernel
theorem dL_law_992 : decode cL_law 992 = .ok (.aload_n 1, 1) := by decide +kernel
theorem dL_law_993 : decode cL_law 993 = .ok (.aload_n 0, 1) := by decide +kernel
theorem dL_law_994 : decode cL_law 994 = .ok (.iload_n 3, 1) := by decide +kernel
theorem dL_law_995 : decode cL_law 995 = .ok (.iconst 1, 1) := by decide +kernel
theorem dL_law_996 : decode cL_law 996 = .ok (.iadd, 1) := by decide +kernel
theorem dL_law_997 : decode cL_law 997 = .ok (.iaload, 1) := by decide +kernel
theorem dL_law_998 : decode cL_law 998 = .ok (.aload_n 0, 1) := by decide +kernel
theorem dL_law_999 : decode cL_law 999 = .ok (.iload_n 3, 1) := by decide +kernel
theorem dL_law_1000 : decode cL_law 1000 = .ok (.iconst 2, 1) := by decide +kernel
theorem dL_law_1001 : decode cL_law 1001 = .ok (.iadd, 1) := by decide +kernel
theorem dL_law_1002 : decode cL_law 1002 = .ok (.iaload, 1) := by decide +kernel
theorem dL_law_1003 : decode cL_law 1003 = .ok (.aload_n 0, 1) := by decide +kernel
theorem dL_law_1004 : decode cL_law 1004 = .ok (.iload_n 3, 1) := by decide +kernel
theorem dL_law_1005 : decode cL_law 1005 = .ok (.iconst 3, 1) := by decide +kernel
theorem dL_law_1006 : decode cL_law 1006 = .ok (.iadd, 1) := by decide +kernel
theorem dL_law_1007 : decode cL_law 1007 = .ok (.iaload, 1) := by decide +kernel
theorem dL_law_1008 : decode cL_law 1008 = .ok (.invokevirtual 109, 3) := by decide +kernel
theorem dL_law_1011 : decode cL_law 1011 = .ok (.aload_n 2, 1) := by decide +kernel
theorem dL_law_1012 : decode cL_law 1012 = .ok (.aload_n 0, 1) := by decide +kernel
theorem dL_law_1013 : decode cL_law 1013 = .ok (.iload_n 3, 1) := by decide +kernel
theorem dL_law_1014 : decode cL_law 1014 = .ok (.iconst 1, 1) := by decide +kernel
theorem dL_law_1015 : decode cL_law 1015 = .ok (.iadd, 1) := by decide +kernel
theorem dL_law_1016 : decode cL_law 1016 = .ok (.iaload, 1) := by decide +kernel
theorem dL_law_1017 : decode cL_law 1017 = .ok (.aload_n 0, 1) := by decide +kernel
theorem dL_law_1018 : decode cL_law 1018 = .ok (.iload_n 3, 1) := by decide +kernel
theorem dL_law_1019 : decode cL_law 1019 = .ok (.iconst 2, 1) := by decide +kernel
theorem dL_law_1020 : decode cL_law 1020 = .ok (.iadd, 1) := by decide +kernel
theorem dL_law_1021 : decode cL_law 1021 = .ok (.iaload, 1) := by decide +kernel
theorem dL_law_1022 : decode cL_law 1022 = .ok (.aload_n 0, 1) := by decide +kernel
theorem dL_law_1023 : decode cL_law 1023 = .ok (.iload_n 3, 1) := by decide +kernel
theorem dL_law_1024 : decode cL_law 1024 = .ok (.iconst 3, 1) := by decide +kernel
theorem dL_law_1025 : decode cL_law 1025 = .ok (.iadd, 1) := by decide +kernel
theorem dL_law_1026 : decode cL_law 1026 = .ok (.iaload, 1) := by decide +kernel
theorem dL_law_1027 : decode cL_law 1027 = .ok (.invokevirtual 112, 3) := by decide +kernel
theorem dL_law_1030 : decode cL_law 1030 = .ok (.if_icmp .eq 407, 3) := by decide +kernel
theorem dL_law_1033 : decode cL_law 1033 = .ok (.iconst 0, 1) := by decide +kernel
theorem dL_law_1034 : decode cL_law 1034 = .ok (.ireturn, 1) := by decide +kernel
theorem dL_law_1035 : decode cL_law 1035 = .ok (.aload_n 1, 1) := by decide +kernel
theorem dL_law_1036 : decode cL_law 1036 = .ok (.aload_n 0, 1) := by decide +kernel
theorem dL_law_1037 : decode cL_law 1037 = .ok (.iload_n 3, 1) := by decide +kernel
theorem dL_law_1038 : decode cL_law 1038 = .ok (.iconst 1, 1) := by decide +kernel
theorem dL_law_1039 : decode cL_law 1039 = .ok (.iadd, 1) := by decide +kernel
theorem dL_law_1040 : decode cL_law 1040 = .ok (.iaload, 1) := by decide +kernel
theorem dL_law_1041 : decode cL_law 1041 = .ok (.aload_n 0, 1) := by decide +kernel
theorem dL_law_1042 : decode cL_law 1042 = .ok (.iload_n 3, 1) := by decide +kernel
theorem dL_law_1043 : decode cL_law 1043 = .ok (.iconst 2, 1) := by decide +kernel
theorem dL_law_1044 : decode cL_law 1044 = .ok (.iadd, 1) := by decide +kernel
theorem dL_law_1045 : decode cL_law 1045 = .ok (.iaload, 1) := by decide +kernel
theorem dL_law_1046 : decode cL_law 1046 = .ok (.invokevirtual 113, 3) := by decide +kernel
theorem dL_law_1049 : decode cL_law 1049 = .ok (.aload_n 2, 1) := by decide +kernel
theorem dL_law_1050 : decode cL_law 1050 = .ok (.aload_n 0, 1) := by decide +kernel
theorem dL_law_1051 : decode cL_law 1051 = .ok (.iload_n 3, 1) := by decide +kernel
theorem dL_law_1052 : decode cL_law 1052 = .ok (.iconst 1, 1) := by decide +kernel
theorem dL_law_1053 : decode cL_law 1053 = .ok (.iadd, 1) := by decide +kernel
theorem dL_law_1054 : decode cL_law 1054 = .ok (.iaload, 1) := by decide +kernel
theorem dL_law_1055 : decode cL_law 1055 = .ok (.aload_n 0, 1) := by decide +kernel
theorem dL_law_1056 : decode cL_law 1056 = .ok (.iload_n 3, 1) := by decide +kernel
theorem dL_law_1057 : decode cL_law 1057 = .ok (.iconst 2, 1) := by decide +kernel
theorem dL_law_1058 : decode cL_law 1058 = .ok (.iadd, 1) := by decide +kernel
theorem dL_law_1059 : decode cL_law 1059 = .ok (.iaload, 1) := by decide +kernel
theorem dL_law_1060 : decode cL_law 1060 = .ok (.invokevirtual 116, 3) := by decide +kernel
theorem dL_law_1063 : decode cL_law 1063 = .ok (.if_icmp .eq 374, 3) := by decide +kernel
theorem dL_law_1066 : decode cL_law 1066 = .ok (.iconst 0, 1) := by decide +kernel
theorem dL_law_1067 : decode cL_law 1067 = .ok (.ireturn, 1) := by decide +kernel
theorem dL_law_1068 : decode cL_law 1068 = .ok (.aload_n 1, 1) := by decide +kernel
theorem dL_law_1069 : decode cL_law 1069 = .ok (.aload_n 0, 1) := by decide +kernel
theorem dL_law_1070 : decode cL_law 1070 = .ok (.iload_n 3, 1) := by decide +kernel
theorem dL_law_1071 : decode cL_law 1071 = .ok (.iconst 1, 1) := by decide +kernel
theorem dL_law_1072 : decode cL_law 1072 = .ok (.iadd, 1) := by decide +kernel
theorem dL_law_1073 : decode cL_law 1073 = .ok (.iaload, 1) := by decide +kernel
theorem dL_law_1074 : decode cL_law 1074 = .ok (.aload_n 0, 1) := by decide +kernel
theorem dL_law_1075 : decode cL_law 1075 = .ok (.iload_n 3, 1) := by decide +kernel
theorem dL_law_1076 : decode cL_law 1076 = .ok (.iconst 2, 1) := by decide +kernel
theorem dL_law_1077 : decode cL_law 1077 = .ok (.iadd, 1) := by decide +kernel
theorem dL_law_1078 : decode cL_law 1078 = .ok (.iaload, 1) := by decide +kernel
theorem dL_law_1079 : decode cL_law 1079 = .ok (.aload_n 0, 1) := by decide +kernel
theorem dL_law_1080 : decode cL_law 1080 = .ok (.iload_n 3, 1) := by decide +kernel
theorem dL_law_1081 : decode cL_law 1081 = .ok (.iconst 3, 1) := by decide +kernel
theorem dL_law_1082 : decode cL_law 1082 = .ok (.iadd, 1) := by decide +kernel
theorem dL_law_1083 : decode cL_law 1083 = .ok (.iaload, 1) := by decide +kernel
theorem dL_law_1084 : decode cL_law 1084 = .ok (.invokevirtual 117, 3) := by decide +kernel
theorem dL_law_1087 : decode cL_law 1087 = .ok (.aload_n 2, 1) := by decide +kernel
theorem dL_law_1088 : decode cL_law 1088 = .ok (.aload_n 0, 1) := by decide +kernel
theorem dL_law_1089 : decode cL_law 1089 = .ok (.iload_n 3, 1) := by decide +kernel
theorem dL_law_1090 : decode cL_law 1090 = .ok (.iconst 1, 1) := by decide +kernel
theorem dL_law_1091 : decode cL_law 1091 = .ok (.iadd, 1) := by decide +kernel
theorem dL_law_1092 : decode cL_law 1092 = .ok (.iaload, 1) := by decide +kernel
theorem dL_law_1093 : decode cL_law 1093 = .ok (.aload_n 0, 1) := by decide +kernel
theorem dL_law_1094 : decode cL_law 1094 = .ok (.iload_n 3, 1) := by decide +kernel
theorem dL_law_1095 : decode cL_law 1095 = .ok (.iconst 2, 1) := by decide +kernel
theorem dL_law_1096 : decode cL_law 1096 = .ok (.iadd, 1) := by decide +kernel
theorem dL_law_1097 : decode cL_law 1097 = .ok (.iaload, 1) := by decide +kernel
theorem dL_law_1098 : decode cL_law 1098 = .ok (.aload_n 0, 1) := by decide +kernel
theorem dL_law_1099 : decode cL_law 1099 = .ok (.iload_n 3, 1) := by decide +kernel
theorem dL_law_1100 : decode cL_law 1100 = .ok (.iconst 3, 1) := by decide +kernel
theorem dL_law_1101 : decode cL_law 1101 = .ok (.iadd, 1) := by decide +kernel
theorem dL_law_1102 : decode cL_law 1102 = .ok (.iaload, 1) := by decide +kernel
theorem dL_law_1103 : decode cL_law 1103 = .ok (.invokevirtual 120, 3) := by decide +kernel
theorem dL_law_1106 : decode cL_law 1106 = .ok (.if_icmp .eq 331, 3) := by decide +kernel
theorem dL_law_1109 : decode cL_law 1109 = .ok (.iconst 0, 1) := by decide +kernel
theorem dL_law_1110 : decode cL_law 1110 = .ok (.ireturn, 1) := by decide +kernel
theorem dL_law_1111 : decode cL_law 1111 = .ok (.aload_n 1, 1) := by decide +kernel
theorem dL_law_1112 : decode cL_law 1112 = .ok (.aload_n 0, 1) := by decide +kernel
theorem dL_law_1113 : decode cL_law 1113 = .ok (.iload_n 3, 1) := by decide +kernel
theorem dL_law_1114 : decode cL_law 1114 = .ok (.iconst 1, 1) := by decide +kernel
theorem dL_law_1115 : decode cL_law 1115 = .ok (.iadd, 1) := by decide +kernel
theorem dL_law_1116 : decode cL_law 1116 = .ok (.iaload, 1) := by decide +kernel
theorem dL_law_1117 : decode cL_law 1117 = .ok (.invokevirtual 121, 3) := by decide +kernel
theorem dL_law_1120 : decode cL_law 1120 = .ok (.aload_n 2, 1) := by decide +kernel
theorem dL_law_1121 : decode cL_law 1121 = .ok (.aload_n 0, 1) := by decide +kernel
theorem dL_law_1122 : decode cL_law 1122 = .ok (.iload_n 3, 1) := by decide +kernel
theorem dL_law_1123 : decode cL_law 1123 = .ok (.iconst 1, 1) := by decide +kernel
theorem dL_law_1124 : decode cL_law 1124 = .ok (.iadd, 1) := by decide +kernel
theorem dL_law_1125 : decode cL_law 1125 = .ok (.iaload, 1) := by decide +kernel
theorem dL_law_1126 : decode cL_law 1126 = .ok (.invokevirtual 124, 3) := by decide +kernel
theorem dL_law_1129 : decode cL_law 1129 = .ok (.if_icmp .eq 308, 3) := by decide +kernel
theorem dL_law_1132 : decode cL_law 1132 = .ok (.iconst 0, 1) := by decide +kernel
theorem dL_law_1133 : decode cL_law 1133 = .ok (.ireturn, 1) := by decide +kernel
theorem dL_law_1134 : decode cL_law 1134 = .ok (.aload_n 1, 1) := by decide +kernel
theorem dL_law_1135 : decode cL_law 1135 = .ok (.aload_n 0, 1) := by decide +kernel
theorem dL_law_1136 : decode cL_law 1136 = .ok (.iload_n 3, 1) := by decide +kernel
theorem dL_law_1137 : decode cL_law 1137 = .ok (.iconst 1, 1) := by decide +kernel
theorem dL_law_1138 : decode cL_law 1138 = .ok (.iadd, 1) := by decide +kernel
theorem dL_law_1139 : decode cL_law 1139 = .ok (.iaload, 1) := by decide +kernel
theorem dL_law_1140 : decode cL_law 1140 = .ok (.aload_n 0, 1) := by decide +kernel
theorem dL_law_1141 : decode cL_law 1141 = .ok (.iload_n 3, 1) := by decide +kernel
theorem dL_law_1142 : decode cL_law 1142 = .ok (.iconst 2, 1) := by decide +kernel
theorem dL_law_1143 : decode cL_law 1143 = .ok (.iadd, 1) := by decide +kernel
theorem dL_law_1144 : decode cL_law 1144 = .ok (.iaload, 1) := by decide +kernel
theorem dL_law_1145 : decode cL_law 1145 = .ok (.aload_n 0, 1) := by decide +kernel
theorem dL_law_1146 : decode cL_law 1146 = .ok (.iload_n 3, 1) := by decide +kernel
theorem dL_law_1147 : decode cL_law 1147 = .ok (.iconst 3, 1) := by decide +kernel
theorem dL_law_1148 : decode cL_law 1148 = .ok (.iadd, 1) := by decide +kernel
theorem dL_law_1149 : decode cL_law 1149 = .ok (.iaload, 1) := by decide +kernel
theorem dL_law_1150 : decode cL_law 1150 = .ok (.invokevirtual 125, 3) := by decide +kernel
theorem dL_law_1153 : decode cL_law 1153 = .ok (.aload_n 2, 1) := by decide +kernel
theorem dL_law_1154 : decode cL_law 1154 = .ok (.aload_n 0, 1) := by decide +kernel
theorem dL_law_1155 : decode cL_law 1155 = .ok (.iload_n 3, 1) := by decide +kernel
theorem dL_law_1156 : decode cL_law 1156 = .ok (.iconst 1, 1) := by decide +kernel
theorem dL_law_1157 : decode cL_law 1157 = .ok (.iadd, 1) := by decide +kernel
theorem dL_law_1158 : decode cL_law 1158 = .ok (.iaload, 1) := by decide +kernel
theorem dL_law_1159 : decode cL_law 1159 = .ok (.aload_n 0, 1) := by decide +kernel
theorem dL_law_1160 : decode cL_law 1160 = .ok (.iload_n 3, 1) := by decide +kernel
theorem dL_law_1161 : decode cL_law 1161 = .ok (.iconst 2, 1) := by decide +kernel
theorem dL_law_1162 : decode cL_law 1162 = .ok (.iadd, 1) := by decide +kernel
theorem dL_law_1163 : decode cL_law 1163 = .ok (.iaload, 1) := by decide +kernel
theorem dL_law_1164 : decode cL_law 1164 = .ok (.aload_n 0, 1) := by decide +kernel
theorem dL_law_1165 : decode cL_law 1165 = .ok (.iload_n 3, 1) := by decide +kernel
theorem dL_law_1166 : decode cL_law 1166 = .ok (.iconst 3, 1) := by decide +kernel
theorem dL_law_1167 : decode cL_law 1167 = .ok (.iadd, 1) := by decide +kernel
theorem dL_law_1168 : decode cL_law 1168 = .ok (.iaload, 1) := by decide +kernel
theorem dL_law_1169 : decode cL_law 1169 = .ok (.invokevirtual 128, 3) := by decide +kernel
theorem dL_law_1172 : decode cL_law 1172 = .ok (.if_icmp .eq 265, 3) := by decide +kernel
theorem dL_law_1175 : decode cL_law 1175 = .ok (.iconst 0, 1) := by decide +kernel
theorem dL_law_1176 : decode cL_law 1176 = .ok (.ireturn, 1) := by decide +kernel
theorem dL_law_1177 : decode cL_law 1177 = .ok (.aload_n 1, 1) := by decide +kernel
theorem dL_law_1178 : decode cL_law 1178 = .ok (.aload_n 0, 1) := by decide +kernel
theorem dL_law_1179 : decode cL_law 1179 = .ok (.iload_n 3, 1) := by decide +kernel
theorem dL_law_1180 : decode cL_law 1180 = .ok (.iconst 1, 1) := by decide +kernel
theorem dL_law_1181 : decode cL_law 1181 = .ok (.iadd, 1) := by decide +kernel
theorem dL_law_1182 : decode cL_law 1182 = .ok (.iaload, 1) := by decide +kernel
theorem dL_law_1183 : decode cL_law 1183 = .ok (.aload_n 0, 1) := by decide +kernel
theorem dL_law_1184 : decode cL_law 1184 = .ok (.iload_n 3, 1) := by decide +kernel
theorem dL_law_1185 : decode cL_law 1185 = .ok (.iconst 2, 1) := by decide +kernel
theorem dL_law_1186 : decode cL_law 1186 = .ok (.iadd, 1) := by decide +kernel
theorem dL_law_1187 : decode cL_law 1187 = .ok (.iaload, 1) := by decide +kernel
theorem dL_law_1188 : decode cL_law 1188 = .ok (.aload_n 0, 1) := by decide +kernel
theorem dL_law_1189 : decode cL_law 1189 = .ok (.iload_n 3, 1) := by decide +kernel
theorem dL_law_1190 : decode cL_law 1190 = .ok (.iconst 3, 1) := by decide +kernel
theorem dL_law_1191 : decode cL_law 1191 = .ok (.iadd, 1) := by decide +kernel
theorem dL_law_1192 : decode cL_law 1192 = .ok (.iaload, 1) := by decide +kernel
theorem dL_law_1193 : decode cL_law 1193 = .ok (.invokevirtual 129, 3) := by decide +kernel
theorem dL_law_1196 : decode cL_law 1196 = .ok (.aload_n 2, 1) := by decide +kernel
theorem dL_law_1197 : decode cL_law 1197 = .ok (.aload_n 0, 1) := by decide +kernel
theorem dL_law_1198 : decode cL_law 1198 = .ok (.iload_n 3, 1) := by decide +kernel
theorem dL_law_1199 : decode cL_law 1199 = .ok (.iconst 1, 1) := by decide +kernel
theorem dL_law_1200 : decode cL_law 1200 = .ok (.iadd, 1) := by decide +kernel
theorem dL_law_1201 : decode cL_law 1201 = .ok (.iaload, 1) := by decide +kernel
theorem dL_law_1202 : decode cL_law 1202 = .ok (.aload_n 0, 1) := by decide +kernel
theorem dL_law_1203 : decode cL_law 1203 = .ok (.iload_n 3, 1) := by decide +kernel
theorem dL_law_1204 : decode cL_law 1204 = .ok (.iconst 2, 1) := by decide +kernel
theorem dL_law_1205 : decode cL_law 1205 = .ok (.iadd, 1) := by decide +kernel
theorem dL_law_1206 : decode cL_law 1206 = .ok (.iaload, 1) := by decide +kernel
theorem dL_law_1207 : decode cL_law 1207 = .ok (.aload_n 0, 1) := by decide +kernel
theorem dL_law_1208 : decode cL_law 1208 = .ok (.iload_n 3, 1) := by decide +kernel
theorem dL_law_1209 : decode cL_law 1209 = .ok (.iconst 3, 1) := by decide +kernel
theorem dL_law_1210 : decode cL_law 1210 = .ok (.iadd, 1) := by decide +kernel
theorem dL_law_1211 : decode cL_law 1211 = .ok (.iaload, 1) := by decide +kernel
theorem dL_law_1212 : decode cL_law 1212 = .ok (.invokevirtual 132, 3) := by decide +kernel
theorem dL_law_1215 : decode cL_law 1215 = .ok (.if_icmp .eq 222, 3) := by decide +kernel
theorem dL_law_1218 : decode cL_law 1218 = .ok (.iconst 0, 1) := by decide +kernel
theorem dL_law_1219 : decode cL_law 1219 = .ok (.ireturn, 1) := by decide +kernel
theorem dL_law_1220 : decode cL_law 1220 = .ok (.aload_n 1, 1) := by decide +kernel
theorem dL_law_1221 : decode cL_law 1221 = .ok (.aload_n 0, 1) := by decide +kernel
theorem dL_law_1222 : decode cL_law 1222 = .ok (.iload_n 3, 1) := by decide +kernel
theorem dL_law_1223 : decode cL_law 1223 = .ok (.iconst 1, 1) := by decide +kernel
theorem dL_law_1224 : decode cL_law 1224 = .ok (.iadd, 1) := by decide +kernel
theorem dL_law_1225 : decode cL_law 1225 = .ok (.iaload, 1) := by decide +kernel
theorem dL_law_1226 : decode cL_law 1226 = .ok (.aload_n 0, 1) := by decide +kernel
theorem dL_law_1227 : decode cL_law 1227 = .ok (.iload_n 3, 1) := by decide +kernel
theorem dL_law_1228 : decode cL_law 1228 = .ok (.iconst 2, 1) := by decide +kernel
theorem dL_law_1229 : decode cL_law 1229 = .ok (.iadd, 1) := by decide +kernel
theorem dL_law_1230 : decode cL_law 1230 = .ok (.iaload, 1) := by decide +kernel
theorem dL_law_1231 : decode cL_law 1231 = .ok (.aload_n 0, 1) := by decide +kernel
theorem dL_law_1232 : decode cL_law 1232 = .ok (.iload_n 3, 1) := by decide +kernel
theorem dL_law_1233 : decode cL_law 1233 = .ok (.iconst 3, 1) := by decide +kernel
theorem dL_law_1234 : decode cL_law 1234 = .ok (.iadd, 1) := by decide +kernel
theorem dL_law_1235 : decode cL_law 1235 = .ok (.iaload, 1) := by decide +kernel
theorem dL_law_1236 : decode cL_law 1236 = .ok (.aload_n 0, 1) := by decide +kernel
theorem dL_law_1237 : decode cL_law 1237 = .ok (.iload_n 3, 1) := by decide +kernel
theorem dL_law_1238 : decode cL_law 1238 = .ok (.iconst 4, 1) := by decide +kernel
theorem dL_law_1239 : decode cL_law 1239 = .ok (.iadd, 1) := by decide +kernel
theorem dL_law_1240 : decode cL_law 1240 = .ok (.iaload, 1) := by decide +kernel
theorem dL_law_1241 : decode cL_law 1241 = .ok (.aload_n 0, 1) := by decide +kernel
theorem dL_law_1242 : decode cL_law 1242 = .ok (.iload_n 3, 1) := by decide +kernel
theorem dL_law_1243 : decode cL_law 1243 = .ok (.iconst 5, 1) := by decide +kernel
theorem dL_law_1244 : decode cL_law 1244 = .ok (.iadd, 1) := by decide +kernel
theorem dL_law_1245 : decode cL_law 1245 = .ok (.iaload, 1) := by decide +kernel
theorem dL_law_1246 : decode cL_law 1246 = .ok (.invokevirtual 133, 3) := by decide +kernel
theorem dL_law_1249 : decode cL_law 1249 = .ok (.aload_n 2, 1) := by decide +kernel
theorem dL_law_1250 : decode cL_law 1250 = .ok (.aload_n 0, 1) := by decide +kernel
theorem dL_law_1251 : decode cL_law 1251 = .ok (.iload_n 3, 1) := by decide +kernel
theorem dL_law_1252 : decode cL_law 1252 = .ok (.iconst 1, 1) := by decide +kernel
theorem dL_law_1253 : decode cL_law 1253 = .ok (.iadd, 1) := by decide +kernel
theorem dL_law_1254 : decode cL_law 1254 = .ok (.iaload, 1) := by decide +kernel
theorem dL_law_1255 : decode cL_law 1255 = .ok (.aload_n 0, 1) := by decide +kernel
theorem dL_law_1256 : decode cL_law 1256 = .ok (.iload_n 3, 1) := by decide +kernel
theorem dL_law_1257 : decode cL_law 1257 = .ok (.iconst 2, 1) := by decide +kernel
theorem dL_law_1258 : decode cL_law 1258 = .ok (.iadd, 1) := by decide +kernel
theorem dL_law_1259 : decode cL_law 1259 = .ok (.iaload, 1) := by decide +kernel
theorem dL_law_1260 : decode cL_law 1260 = .ok (.aload_n 0, 1) := by decide +kernel
theorem dL_law_1261 : decode cL_law 1261 = .ok (.iload_n 3, 1) := by decide +kernel
theorem dL_law_1262 : decode cL_law 1262 = .ok (.iconst 3, 1) := by decide +kernel
theorem dL_law_1263 : decode cL_law 1263 = .ok (.iadd, 1) := by decide +kernel
theorem dL_law_1264 : decode cL_law 1264 = .ok (.iaload, 1) := by decide +kernel
theorem dL_law_1265 : decode cL_law 1265 = .ok (.aload_n 0, 1) := by decide +kernel
theorem dL_law_1266 : decode cL_law 1266 = .ok (.iload_n 3, 1) := by decide +kernel
theorem dL_law_1267 : decode cL_law 1267 = .ok (.iconst 4, 1) := by decide +kernel
theorem dL_law_1268 : decode cL_law 1268 = .ok (.iadd, 1) := by decide +kernel
theorem dL_law_1269 : decode cL_law 1269 = .ok (.iaload, 1) := by decide +kernel
theorem dL_law_1270 : decode cL_law 1270 = .ok (.aload_n 0, 1) := by decide +kernel
theorem dL_law_1271 : decode cL_law 1271 = .ok (.iload_n 3, 1) := by decide +kernel
theorem dL_law_1272 : decode cL_law 1272 = .ok (.iconst 5, 1) := by decide +kernel
theorem dL_law_1273 : decode cL_law 1273 = .ok (.iadd, 1) := by decide +kernel
theorem dL_law_1274 : decode cL_law 1274 = .ok (.iaload, 1) := by decide +kernel
theorem dL_law_1275 : decode cL_law 1275 = .ok (.invokevirtual 136, 3) := by decide +kernel
theorem dL_law_1278 : decode cL_law 1278 = .ok (.if_icmp .eq 159, 3) := by decide +kernel
theorem dL_law_1281 : decode cL_law 1281 = .ok (.iconst 0, 1) := by decide +kernel
theorem dL_law_1282 : decode cL_law 1282 = .ok (.ireturn, 1) := by decide +kernel
theorem dL_law_1283 : decode cL_law 1283 = .ok (.aload_n 1, 1) := by decide +kernel
theorem dL_law_1284 : decode cL_law 1284 = .ok (.aload_n 0, 1) := by decide +kernel
theorem dL_law_1285 : decode cL_law 1285 = .ok (.iload_n 3, 1) := by decide +kernel
theorem dL_law_1286 : decode cL_law 1286 = .ok (.iconst 1, 1) := by decide +kernel
theorem dL_law_1287 : decode cL_law 1287 = .ok (.iadd, 1) := by decide +kernel
theorem dL_law_1288 : decode cL_law 1288 = .ok (.iaload, 1) := by decide +kernel
theorem dL_law_1289 : decode cL_law 1289 = .ok (.invokevirtual 137, 3) := by decide +kernel
theorem dL_law_1292 : decode cL_law 1292 = .ok (.aload_n 2, 1) := by decide +kernel
theorem dL_law_1293 : decode cL_law 1293 = .ok (.aload_n 0, 1) := by decide +kernel
theorem dL_law_1294 : decode cL_law 1294 = .ok (.iload_n 3, 1) := by decide +kernel
theorem dL_law_1295 : decode cL_law 1295 = .ok (.iconst 1, 1) := by decide +kernel
theorem dL_law_1296 : decode cL_law 1296 = .ok (.iadd, 1) := by decide +kernel
theorem dL_law_1297 : decode cL_law 1297 = .ok (.iaload, 1) := by decide +kernel
theorem dL_law_1298 : decode cL_law 1298 = .ok (.invokevirtual 140, 3) := by decide +kernel
theorem dL_law_1301 : decode cL_law 1301 = .ok (.if_icmp .eq 136, 3) := by decide +kernel
theorem dL_law_1304 : decode cL_law 1304 = .ok (.iconst 0, 1) := by decide +kernel
theorem dL_law_1305 : decode cL_law 1305 = .ok (.ireturn, 1) := by decide +kernel
theorem dL_law_1306 : decode cL_law 1306 = .ok (.aload_n 1, 1) := by decide +kernel
theorem dL_law_1307 : decode cL_law 1307 = .ok (.aload_n 0, 1) := by decide +kernel
theorem dL_law_1308 : decode cL_law 1308 = .ok (.iload_n 3, 1) := by decide +kernel
theorem dL_law_1309 : decode cL_law 1309 = .ok (.iconst 1, 1) := by decide +kernel
theorem dL_law_1310 : decode cL_law 1310 = .ok (.iadd, 1) := by decide +kernel
theorem dL_law_1311 : decode cL_law 1311 = .ok (.iaload, 1) := by decide +kernel
theorem dL_law_1312 : decode cL_law 1312 = .ok (.invokevirtual 141, 3) := by decide +kernel
theorem dL_law_1315 : decode cL_law 1315 = .ok (.aload_n 2, 1) := by decide +kernel
theorem dL_law_1316 : decode cL_law 1316 = .ok (.aload_n 0, 1) := by decide +kernel
theorem dL_law_1317 : decode cL_law 1317 = .ok (.iload_n 3, 1) := by decide +kernel
theorem dL_law_1318 : decode cL_law 1318 = .ok (.iconst 1, 1) := by decide +kernel
theorem dL_law_1319 : decode cL_law 1319 = .ok (.iadd, 1) := by decide +kernel
theorem dL_law_1320 : decode cL_law 1320 = .ok (.iaload, 1) := by decide +kernel
theorem dL_law_1321 : decode cL_law 1321 = .ok (.invokevirtual 144, 3) := by decide +kernel
theorem dL_law_1324 : decode cL_law 1324 = .ok (.if_icmp .eq 113, 3) := by decide +kernel
theorem dL_law_1327 : decode cL_law 1327 = .ok (.iconst 0, 1) := by decide +kernel
theorem dL_law_1328 : decode cL_law 1328 = .ok (.ireturn, 1) := by decide +kernel
theorem dL_law_1329 : decode cL_law 1329 = .ok (.aload_n 1, 1) := by decide +kernel
theorem dL_law_1330 : decode cL_law 1330 = .ok (.invokevirtual 145, 3) := by decide +kernel
theorem dL_law_1333 : decode cL_law 1333 = .ok (.aload_n 2, 1) := by decide +kernel
theorem dL_law_1334 : decode cL_law 1334 = .ok (.invokevirtual 149, 3) := by decide +kernel
theorem dL_law_1337 : decode cL_law 1337 = .ok (.if_icmp .eq 100, 3) := by decide +kernel
theorem dL_law_1340 : decode cL_law 1340 = .ok (.iconst 0, 1) := by decide +kernel
theorem dL_law_1341 : decode cL_law 1341 = .ok (.ireturn, 1) := by decide +kernel
theorem dL_law_1342 : decode cL_law 1342 = .ok (.aload_n 1, 1) := by decide +kernel
theorem dL_law_1343 : decode cL_law 1343 = .ok (.invokevirtual 150, 3) := by decide +kernel
theorem dL_law_1346 : decode cL_law 1346 = .ok (.aload_n 2, 1) := by decide +kernel
theorem dL_law_1347 : decode cL_law 1347 = .ok (.invokevirtual 153, 3) := by decide +kernel
theorem dL_law_1350 : decode cL_law 1350 = .ok (.if_icmp .eq 87, 3) := by decide +kernel
theorem dL_law_1353 : decode cL_law 1353 = .ok (.iconst 0, 1) := by decide +kernel
theorem dL_law_1354 : decode cL_law 1354 = .ok (.ireturn, 1) := by decide +kernel
theorem dL_law_1355 : decode cL_law 1355 = .ok (.aload_n 1, 1) := by decide +kernel
theorem dL_law_1356 : decode cL_law 1356 = .ok (.aload_n 0, 1) := by decide +kernel
theorem dL_law_1357 : decode cL_law 1357 = .ok (.iload_n 3, 1) := by decide +kernel
theorem dL_law_1358 : decode cL_law 1358 = .ok (.iconst 1, 1) := by decide +kernel
theorem dL_law_1359 : decode cL_law 1359 = .ok (.iadd, 1) := by decide +kernel
theorem dL_law_1360 : decode cL_law 1360 = .ok (.iaload, 1) := by decide +kernel
theorem dL_law_1361 : decode cL_law 1361 = .ok (.invokevirtual 154, 3) := by decide +kernel
theorem dL_law_1364 : decode cL_law 1364 = .ok (.aload_n 2, 1) := by decide +kernel
theorem dL_law_1365 : decode cL_law 1365 = .ok (.aload_n 0, 1) := by decide +kernel
theorem dL_law_1366 : decode cL_law 1366 = .ok (.iload_n 3, 1) := by decide +kernel
theorem dL_law_1367 : decode cL_law 1367 = .ok (.iconst 1, 1) := by decide +kernel
theorem dL_law_1368 : decode cL_law 1368 = .ok (.iadd, 1) := by decide +kernel
theorem dL_law_1369 : decode cL_law 1369 = .ok (.iaload, 1) := by decide +kernel
theorem dL_law_1370 : decode cL_law 1370 = .ok (.invokevirtual 157, 3) := by decide +kernel
theorem dL_law_1373 : decode cL_law 1373 = .ok (.if_icmp .eq 64, 3) := by decide +kernel
theorem dL_law_1376 : decode cL_law 1376 = .ok (.iconst 0, 1) := by decide +kernel
theorem dL_law_1377 : decode cL_law 1377 = .ok (.ireturn, 1) := by decide +kernel
theorem dL_law_1378 : decode cL_law 1378 = .ok (.aload_n 1, 1) := by decide +kernel
theorem dL_law_1379 : decode cL_law 1379 = .ok (.invokevirtual 158, 3) := by decide +kernel
theorem dL_law_1382 : decode cL_law 1382 = .ok (.aload_n 2, 1) := by decide +kernel
theorem dL_law_1383 : decode cL_law 1383 = .ok (.invokevirtual 161, 3) := by decide +kernel
theorem dL_law_1386 : decode cL_law 1386 = .ok (.if_icmp .eq 51, 3) := by decide +kernel
theorem dL_law_1389 : decode cL_law 1389 = .ok (.iconst 0, 1) := by decide +kernel
theorem dL_law_1390 : decode cL_law 1390 = .ok (.ireturn, 1) := by decide +kernel
theorem dL_law_1391 : decode cL_law 1391 = .ok (.aload_n 1, 1) := by decide +kernel
theorem dL_law_1392 : decode cL_law 1392 = .ok (.aload_n 0, 1) := by decide +kernel
theorem dL_law_1393 : decode cL_law 1393 = .ok (.iload_n 3, 1) := by decide +kernel
theorem dL_law_1394 : decode cL_law 1394 = .ok (.iconst 1, 1) := by decide +kernel
theorem dL_law_1395 : decode cL_law 1395 = .ok (.iadd, 1) := by decide +kernel
theorem dL_law_1396 : decode cL_law 1396 = .ok (.iaload, 1) := by decide +kernel
theorem dL_law_1397 : decode cL_law 1397 = .ok (.invokevirtual 162, 3) := by decide +kernel
theorem dL_law_1400 : decode cL_law 1400 = .ok (.aload_n 2, 1) := by decide +kernel
theorem dL_law_1401 : decode cL_law 1401 = .ok (.aload_n 0, 1) := by decide +kernel
theorem dL_law_1402 : decode cL_law 1402 = .ok (.iload_n 3, 1) := by decide +kernel
theorem dL_law_1403 : decode cL_law 1403 = .ok (.iconst 1, 1) := by decide +kernel
theorem dL_law_1404 : decode cL_law 1404 = .ok (.iadd, 1) := by decide +kernel
theorem dL_law_1405 : decode cL_law 1405 = .ok (.iaload, 1) := by decide +kernel
theorem dL_law_1406 : decode cL_law 1406 = .ok (.invokevirtual 165, 3) := by decide +kernel
theorem dL_law_1409 : decode cL_law 1409 = .ok (.if_icmp .eq 28, 3) := by decide +kernel
theorem dL_law_1412 : decode cL_law 1412 = .ok (.iconst 0, 1) := by decide +kernel
theorem dL_law_1413 : decode cL_law 1413 = .ok (.ireturn, 1) := by decide +kernel
theorem dL_law_1414 : decode cL_law 1414 = .ok (.aload_n 1, 1) := by decide +kernel
theorem dL_law_1415 : decode cL_law 1415 = .ok (.aload_n 0, 1) := by decide +kernel
theorem dL_law_1416 : decode cL_law 1416 = .ok (.iload_n 3, 1) := by decide +kernel
theorem dL_law_1417 : decode cL_law 1417 = .ok (.iconst 1, 1) := by decide +kernel
theorem dL_law_1418 : decode cL_law 1418 = .ok (.iadd, 1) := by decide +kernel
theorem dL_law_1419 : decode cL_law 1419 = .ok (.iaload, 1) := by decide +kernel
theorem dL_law_1420 : decode cL_law 1420 = .ok (.invokevirtual 166, 3) := by decide +kernel
theorem dL_law_1423 : decode cL_law 1423 = .ok (.aload_n 2, 1) := by decide +kernel
theorem dL_law_1424 : decode cL_law 1424 = .ok (.aload_n 0, 1) := by decide +kernel
theorem dL_law_1425 : decode cL_law 1425 = .ok (.iload_n 3, 1) := by decide +kernel
theorem dL_law_1426 : decode cL_law 1426 = .ok (.iconst 1, 1) := by decide +kernel
theorem dL_law_1427 : decode cL_law 1427 = .ok (.iadd, 1) := by decide +kernel
theorem dL_law_1428 : decode cL_law 1428 = .ok (.iaload, 1) := by decide +kernel
theorem dL_law_1429 : decode cL_law 1429 = .ok (.invokevirtual 169, 3) := by decide +kernel
theorem dL_law_1432 : decode cL_law 1432 = .ok (.if_icmp .eq 5, 3) := by decide +kernel
theorem dL_law_1435 : decode cL_law 1435 = .ok (.iconst 0, 1) := by decide +kernel
theorem dL_law_1436 : decode cL_law 1436 = .ok (.ireturn, 1) := by decide +kernel
theorem dL_law_1437 : decode cL_law 1437 = .ok (.iinc 3 6, 3) := by decide +kernel
theorem dL_law_1440 : decode cL_law 1440 = .ok (.goto (-1422), 3) := by decide +kernel
theorem dL_law_1443 : decode cL_law 1443 = .ok (.iconst 1, 1) := by decide +kernel
theorem dL_law_1444 : decode cL_law 1444 = .ok (.ireturn, 1) := by decide +kernel
def oScrLen (L n : Nat) : MOp := fun k kr lv st S => match st with
  | .ref a :: w => bif Nat.beq a 1002 then k n lv (.int (Int32.ofNat L) :: w) S else none
  | _ => none
def oScrLd (L : Nat) (xs : Nat → Int32) (n : Nat) : MOp := fun k kr lv st S => match st with
  | .int i :: .ref a :: w => bif Nat.beq a 1002 then (if i < 0 ∨ L ≤ i.toNatClampNeg then none else k n lv (.int (xs i.toNatClampNeg) :: w) S) else none
  | _ => none
theorem ta_oScrLen (L n : Nat) : mTail (oScrLen L n) := by
  intro k kr r lv st S h
  unfold oScrLen at h ⊢
  split at h
  · rename_i a w
    cases h0 : Nat.beq a 1002 with
    | false => rw [h0] at h; cases h
    | true => rw [h0] at h; exact Or.inl ⟨_, _, _, _, h, fun k' z => z⟩
  · cases h
theorem ta_oScrLd (L : Nat) (xs : Nat → Int32) (n : Nat) : mTail (oScrLd L xs n) := by
  intro k kr r lv st S h
  unfold oScrLd at h ⊢
  split at h
  · rename_i i a w
    cases h0 : Nat.beq a 1002 with
    | false => rw [h0] at h; cases h
    | true =>
      rw [h0] at h
      simp only [cond_true] at h ⊢
      split at h
      · cases h
      · rename_i hy
        simp only [if_neg hy]
        exact Or.inl ⟨_, _, _, _, h, fun k' z => z⟩
  · cases h
section
variable {p : Program} {l : Launch} {e : Env} {R : Room} {s : State} {m : MethodId} {args : Array Value} {below : List Frame} {meth : Method} {c : Code} {Q : State → Prop} {A : Nat → Prop} {D : va_G} {ca : Nat → ClassId} {ad : Nat → Nat} {nL d pc nc ns : Nat} {cc : ByteArray} {own : String} {ret : Option FieldType} {J : Option Value → MS → Prop}
variable {L : Nat} {xs : Nat → Int32}
theorem s_scrLen (X : mX p s m args meth c R cc nL own ret A D ca ad nc ns d) (hX : va_X (ad 1002) L xs s s.heap) (hbl : ad 1002 < s.heap.size) (hbA : ¬ A (ad 1002)) (hdg : decode cc pc = .ok (.arraylength, 1)) : mSnd (mAt p l e R s m args below meth c Q A D ca ad nc ns nL) J pc (oScrLen L (pc + 1)) := by
  intro k kr r lv st S hk hr h H locs ls hP hS hl
  unfold oScrLen at h
  split at h
  · rename_i a w
    cases h0 : Nat.beq a 1002 with
    | false => rw [h0] at h; cases h
    | true =>
      rw [h0] at h
      have e := Nat.eq_of_beq_eq_true h0
      subst e
      exact va_slen X.1 X.2.1 hX hbl hbA hS hdg (hk _ _ _ _ h H locs ls hP hS hl)
  · cases h
theorem s_scrLd (X : mX p s m args meth c R cc nL own ret A D ca ad nc ns d) (hX : va_X (ad 1002) L xs s s.heap) (hbl : ad 1002 < s.heap.size) (hbA : ¬ A (ad 1002)) (hdg : decode cc pc = .ok (.iaload, 1)) : mSnd (mAt p l e R s m args below meth c Q A D ca ad nc ns nL) J pc (oScrLd L xs (pc + 1)) := by
  intro k kr r lv st S hk hr h H locs ls hP hS hl
  unfold oScrLd at h
  split at h
  · rename_i i a w
    cases h0 : Nat.beq a 1002 with
    | false => rw [h0] at h; cases h
    | true =>
      rw [h0] at h
      simp only [cond_true] at h
      split at h
      · cases h
      · rename_i hy
        have e := Nat.eq_of_beq_eq_true h0
        subst e
        exact va_sld X.1 X.2.1 hX hbl hbA hS hy hdg (hk _ _ _ _ h H locs ls hP hS hl)
  · cases h
end
def kL0 (F : Nat → List Value → MS → Option MR) (L : Nat) (xs : Nat → Int32) : List (Nat × MOp) := [(18, oKeep [0, 1, 2, 3] (oIload 3 19)), (19, oAload 0 20), (20, oScrLen L 21), (21, oPush 6 23), (23, oBin fSub 24), (24, oIc_gt 1443 27), (27, oAload 0 28), (28, oIload 3 29), (29, oScrLd L xs 30), (30, oPush 63 32), (32, oBin fAnd 33), (33, oSw [(0, 196), (1, 229), (2, 262), (3, 295), (4, 328), (5, 361), (6, 394), (7, 437), (8, 470), (9, 503), (10, 526), (11, 589), (12, 612), (13, 635), (14, 688), (15, 721), (16, 774), (17, 807), (18, 830), (19, 853), (20, 876), (21, 929), (22, 992), (23, 1035), (24, 1068), (25, 1111), (26, 1134), (27, 1177), (28, 1220), (29, 1283), (30, 1306), (31, 1329), (32, 1342), (33, 1355), (34, 1378), (35, 1391), (36, 1414)] 1437)]
def kL1 (F : Nat → List Value → MS → Option MR) (L : Nat) (xs : Nat → Int32) : List (Nat × MOp) := [(196, oKeep [0, 1, 2, 3] (oAload 1 197)), (197, oAload 0 198), (198, oIload 3 199), (199, oPush 1 200), (200, oBin fAdd 201), (201, oScrLd L xs 202), (202, oAload 0 203), (203, oIload 3 204), (204, oPush 2 205), (205, oBin fAdd 206), (206, oScrLd L xs 207), (207, oCallV true (F 35) 5 2 210), (210, oAload 2 211), (211, oAload 0 212), (212, oIload 3 213), (213, oPush 1 214), (214, oBin fAdd 215), (215, oScrLd L xs 216), (216, oAload 0 217), (217, oIload 3 218), (218, oPush 2 219), (219, oBin fAdd 220), (220, oScrLd L xs 221), (221, oCallV true (F 102) 6 2 224), (224, oIc_eq 1437 227), (227, oPush 0 228), (228, oZret)]
def kL2 (F : Nat → List Value → MS → Option MR) (L : Nat) (xs : Nat → Int32) : List (Nat × MOp) := [(229, oKeep [0, 1, 2, 3] (oAload 1 230)), (230, oAload 0 231), (231, oIload 3 232), (232, oPush 1 233), (233, oBin fAdd 234), (234, oScrLd L xs 235), (235, oAload 0 236), (236, oIload 3 237), (237, oPush 2 238), (238, oBin fAdd 239), (239, oScrLd L xs 240), (240, oCallV true (F 36) 5 2 243), (243, oAload 2 244), (244, oAload 0 245), (245, oIload 3 246), (246, oPush 1 247), (247, oBin fAdd 248), (248, oScrLd L xs 249), (249, oAload 0 250), (250, oIload 3 251), (251, oPush 2 252), (252, oBin fAdd 253), (253, oScrLd L xs 254), (254, oCallV true (F 103) 6 2 257), (257, oIc_eq 1437 260), (260, oPush 0 261), (261, oZret)]
def kL3 (F : Nat → List Value → MS → Option MR) (L : Nat) (xs : Nat → Int32) : List (Nat × MOp) := [(262, oKeep [0, 1, 2, 3] (oAload 1 263)), (263, oAload 0 264), (264, oIload 3 265), (265, oPush 1 266), (266, oBin fAdd 267), (267, oScrLd L xs 268), (268, oAload 0 269), (269, oIload 3 270), (270, oPush 2 271), (271, oBin fAdd 272), (272, oScrLd L xs 273), (273, oCallV true (F 37) 5 2 276), (276, oAload 2 277), (277, oAload 0 278), (278, oIload 3 279), (279, oPush 1 280), (280, oBin fAdd 281), (281, oScrLd L xs 282), (282, oAload 0 283), (283, oIload 3 284), (284, oPush 2 285), (285, oBin fAdd 286), (286, oScrLd L xs 287), (287, oCallV true (F 104) 6 2 290), (290, oIc_eq 1437 293), (293, oPush 0 294), (294, oZret)]
def kL4 (F : Nat → List Value → MS → Option MR) (L : Nat) (xs : Nat → Int32) : List (Nat × MOp) := [(295, oKeep [0, 1, 2, 3] (oAload 1 296)), (296, oAload 0 297), (297, oIload 3 298), (298, oPush 1 299), (299, oBin fAdd 300), (300, oScrLd L xs 301), (301, oAload 0 302), (302, oIload 3 303), (303, oPush 2 304), (304, oBin fAdd 305), (305, oScrLd L xs 306), (306, oCallV true (F 38) 5 2 309), (309, oAload 2 310), (310, oAload 0 311), (311, oIload 3 312), (312, oPush 1 313), (313, oBin fAdd 314), (314, oScrLd L xs 315), (315, oAload 0 316), (316, oIload 3 317), (317, oPush 2 318), (318, oBin fAdd 319), (319, oScrLd L xs 320), (320, oCallV true (F 105) 6 2 323), (323, oIc_eq 1437 326), (326, oPush 0 327), (327, oZret)]
def kL5 (F : Nat → List Value → MS → Option MR) (L : Nat) (xs : Nat → Int32) : List (Nat × MOp) := [(328, oKeep [0, 1, 2, 3] (oAload 1 329)), (329, oAload 0 330), (330, oIload 3 331), (331, oPush 1 332), (332, oBin fAdd 333), (333, oScrLd L xs 334), (334, oAload 0 335), (335, oIload 3 336), (336, oPush 2 337), (337, oBin fAdd 338), (338, oScrLd L xs 339), (339, oCallV true (F 39) 5 2 342), (342, oAload 2 343), (343, oAload 0 344), (344, oIload 3 345), (345, oPush 1 346), (346, oBin fAdd 347), (347, oScrLd L xs 348), (348, oAload 0 349), (349, oIload 3 350), (350, oPush 2 351), (351, oBin fAdd 352), (352, oScrLd L xs 353), (353, oCallV true (F 106) 6 2 356), (356, oIc_eq 1437 359), (359, oPush 0 360), (360, oZret)]
def kL6 (F : Nat → List Value → MS → Option MR) (L : Nat) (xs : Nat → Int32) : List (Nat × MOp) := [(361, oKeep [0, 1, 2, 3] (oAload 1 362)), (362, oAload 0 363), (363, oIload 3 364), (364, oPush 1 365), (365, oBin fAdd 366), (366, oScrLd L xs 367), (367, oAload 0 368), (368, oIload 3 369), (369, oPush 2 370), (370, oBin fAdd 371), (371, oScrLd L xs 372), (372, oCallV true (F 40) 5 2 375), (375, oAload 2 376), (376, oAload 0 377), (377, oIload 3 378), (378, oPush 1 379), (379, oBin fAdd 380), (380, oScrLd L xs 381), (381, oAload 0 382), (382, oIload 3 383), (383, oPush 2 384), (384, oBin fAdd 385), (385, oScrLd L xs 386), (386, oCallV true (F 107) 6 2 389), (389, oIc_eq 1437 392), (392, oPush 0 393), (393, oZret)]
def kL7 (F : Nat → List Value → MS → Option MR) (L : Nat) (xs : Nat → Int32) : List (Nat × MOp) := [(394, oKeep [0, 1, 2, 3] (oAload 1 395)), (395, oAload 0 396), (396, oIload 3 397), (397, oPush 1 398), (398, oBin fAdd 399), (399, oScrLd L xs 400), (400, oAload 0 401), (401, oIload 3 402), (402, oPush 2 403), (403, oBin fAdd 404), (404, oScrLd L xs 405), (405, oAload 0 406), (406, oIload 3 407), (407, oPush 3 408), (408, oBin fAdd 409), (409, oScrLd L xs 410), (410, oCallV true (F 41) 5 3 413), (413, oAload 2 414), (414, oAload 0 415), (415, oIload 3 416), (416, oPush 1 417), (417, oBin fAdd 418), (418, oScrLd L xs 419), (419, oAload 0 420), (420, oIload 3 421), (421, oPush 2 422), (422, oBin fAdd 423), (423, oScrLd L xs 424), (424, oAload 0 425), (425, oIload 3 426), (426, oPush 3 427), (427, oBin fAdd 428), (428, oScrLd L xs 429), (429, oCallV true (F 108) 6 3 432), (432, oIc_eq 1437 435), (435, oPush 0 436), (436, oZret)]
def kL8 (F : Nat → List Value → MS → Option MR) (L : Nat) (xs : Nat → Int32) : List (Nat × MOp) := [(437, oKeep [0, 1, 2, 3] (oAload 1 438)), (438, oAload 0 439), (439, oIload 3 440), (440, oPush 1 441), (441, oBin fAdd 442), (442, oScrLd L xs 443), (443, oAload 0 444), (444, oIload 3 445), (445, oPush 2 446), (446, oBin fAdd 447), (447, oScrLd L xs 448), (448, oCallV true (F 42) 5 2 451), (451, oAload 2 452), (452, oAload 0 453), (453, oIload 3 454), (454, oPush 1 455), (455, oBin fAdd 456), (456, oScrLd L xs 457), (457, oAload 0 458), (458, oIload 3 459), (459, oPush 2 460), (460, oBin fAdd 461), (461, oScrLd L xs 462), (462, oCallV true (F 109) 6 2 465), (465, oIc_eq 1437 468), (468, oPush 0 469), (469, oZret)]
def kL9 (F : Nat → List Value → MS → Option MR) (L : Nat) (xs : Nat → Int32) : List (Nat × MOp) := [(470, oKeep [0, 1, 2, 3] (oAload 1 471)), (471, oAload 0 472), (472, oIload 3 473), (473, oPush 1 474), (474, oBin fAdd 475), (475, oScrLd L xs 476), (476, oAload 0 477), (477, oIload 3 478), (478, oPush 2 479), (479, oBin fAdd 480), (480, oScrLd L xs 481), (481, oCallV true (F 43) 5 2 484), (484, oAload 2 485), (485, oAload 0 486), (486, oIload 3 487), (487, oPush 1 488), (488, oBin fAdd 489), (489, oScrLd L xs 490), (490, oAload 0 491), (491, oIload 3 492), (492, oPush 2 493), (493, oBin fAdd 494), (494, oScrLd L xs 495), (495, oCallV true (F 110) 6 2 498), (498, oIc_eq 1437 501), (501, oPush 0 502), (502, oZret)]
def kL10 (F : Nat → List Value → MS → Option MR) (L : Nat) (xs : Nat → Int32) : List (Nat × MOp) := [(503, oKeep [0, 1, 2, 3] (oAload 1 504)), (504, oAload 0 505), (505, oIload 3 506), (506, oPush 1 507), (507, oBin fAdd 508), (508, oScrLd L xs 509), (509, oCallV true (F 44) 5 1 512), (512, oAload 2 513), (513, oAload 0 514), (514, oIload 3 515), (515, oPush 1 516), (516, oBin fAdd 517), (517, oScrLd L xs 518), (518, oCallV true (F 111) 6 1 521), (521, oIc_eq 1437 524), (524, oPush 0 525), (525, oZret)]
def kL11 (F : Nat → List Value → MS → Option MR) (L : Nat) (xs : Nat → Int32) : List (Nat × MOp) := [(526, oKeep [0, 1, 2, 3] (oAload 1 527)), (527, oAload 0 528), (528, oIload 3 529), (529, oPush 1 530), (530, oBin fAdd 531), (531, oScrLd L xs 532), (532, oI2l 533), (533, oPush 32 535), (535, oLsh lShl 536), (536, oAload 0 537), (537, oIload 3 538), (538, oPush 2 539), (539, oBin fAdd 540), (540, oScrLd L xs 541), (541, oI2l 542), (542, oLpush 4294967295 545), (545, oLbin lAnd 546), (546, oLbin lOr 547), (547, oAload 0 548), (548, oIload 3 549), (549, oPush 3 550), (550, oBin fAdd 551), (551, oScrLd L xs 552), (552, oCallV true (F 45) 5 2 555), (555, oAload 2 556), (556, oAload 0 557), (557, oIload 3 558), (558, oPush 1 559), (559, oBin fAdd 560), (560, oScrLd L xs 561), (561, oI2l 562), (562, oPush 32 564), (564, oLsh lShl 565), (565, oAload 0 566), (566, oIload 3 567), (567, oPush 2 568), (568, oBin fAdd 569), (569, oScrLd L xs 570), (570, oI2l 571), (571, oLpush 4294967295 574), (574, oLbin lAnd 575), (575, oLbin lOr 576), (576, oAload 0 577), (577, oIload 3 578), (578, oPush 3 579), (579, oBin fAdd 580), (580, oScrLd L xs 581), (581, oCallV true (F 112) 6 2 584), (584, oIc_eq 1437 587), (587, oPush 0 588), (588, oZret)]
def kL12 (F : Nat → List Value → MS → Option MR) (L : Nat) (xs : Nat → Int32) : List (Nat × MOp) := [(589, oKeep [0, 1, 2, 3] (oAload 1 590)), (590, oAload 0 591), (591, oIload 3 592), (592, oPush 1 593), (593, oBin fAdd 594), (594, oScrLd L xs 595), (595, oCallV true (F 46) 5 1 598), (598, oAload 2 599), (599, oAload 0 600), (600, oIload 3 601), (601, oPush 1 602), (602, oBin fAdd 603), (603, oScrLd L xs 604), (604, oCallV true (F 124) 6 1 607), (607, oIc_eq 1437 610), (610, oPush 0 611), (611, oZret)]
def kL13 (F : Nat → List Value → MS → Option MR) (L : Nat) (xs : Nat → Int32) : List (Nat × MOp) := [(612, oKeep [0, 1, 2, 3] (oAload 1 613)), (613, oAload 0 614), (614, oIload 3 615), (615, oPush 1 616), (616, oBin fAdd 617), (617, oScrLd L xs 618), (618, oCallV true (F 47) 5 1 621), (621, oAload 2 622), (622, oAload 0 623), (623, oIload 3 624), (624, oPush 1 625), (625, oBin fAdd 626), (626, oScrLd L xs 627), (627, oCallV true (F 125) 6 1 630), (630, oIc_eq 1437 633), (633, oPush 0 634), (634, oZret)]
def kL14 (F : Nat → List Value → MS → Option MR) (L : Nat) (xs : Nat → Int32) : List (Nat × MOp) := [(635, oKeep [0, 1, 2, 3] (oAload 1 636)), (636, oAload 0 637), (637, oIload 3 638), (638, oPush 1 639), (639, oBin fAdd 640), (640, oScrLd L xs 641), (641, oAload 0 642), (642, oIload 3 643), (643, oPush 2 644), (644, oBin fAdd 645), (645, oScrLd L xs 646), (646, oAload 0 647), (647, oIload 3 648), (648, oPush 3 649), (649, oBin fAdd 650), (650, oScrLd L xs 651), (651, oAload 0 652), (652, oIload 3 653), (653, oPush 4 654), (654, oBin fAdd 655), (655, oScrLd L xs 656), (656, oCallV true (F 48) 5 4 659), (659, oAload 2 660), (660, oAload 0 661), (661, oIload 3 662), (662, oPush 1 663), (663, oBin fAdd 664), (664, oScrLd L xs 665), (665, oAload 0 666), (666, oIload 3 667), (667, oPush 2 668), (668, oBin fAdd 669), (669, oScrLd L xs 670), (670, oAload 0 671), (671, oIload 3 672), (672, oPush 3 673), (673, oBin fAdd 674), (674, oScrLd L xs 675), (675, oAload 0 676), (676, oIload 3 677), (677, oPush 4 678), (678, oBin fAdd 679), (679, oScrLd L xs 680), (680, oCallV true (F 129) 6 4 683), (683, oIc_eq 1437 686), (686, oPush 0 687), (687, oZret)]
def kL15 (F : Nat → List Value → MS → Option MR) (L : Nat) (xs : Nat → Int32) : List (Nat × MOp) := [(688, oKeep [0, 1, 2, 3] (oAload 1 689)), (689, oAload 0 690), (690, oIload 3 691), (691, oPush 1 692), (692, oBin fAdd 693), (693, oScrLd L xs 694), (694, oAload 0 695), (695, oIload 3 696), (696, oPush 2 697), (697, oBin fAdd 698), (698, oScrLd L xs 699), (699, oCallV true (F 49) 5 2 702), (702, oAload 2 703), (703, oAload 0 704), (704, oIload 3 705), (705, oPush 1 706), (706, oBin fAdd 707), (707, oScrLd L xs 708), (708, oAload 0 709), (709, oIload 3 710), (710, oPush 2 711), (711, oBin fAdd 712), (712, oScrLd L xs 713), (713, oCallV true (F 136) 6 2 716), (716, oIc_eq 1437 719), (719, oPush 0 720), (720, oZret)]
def kL16 (F : Nat → List Value → MS → Option MR) (L : Nat) (xs : Nat → Int32) : List (Nat × MOp) := [(721, oKeep [0, 1, 2, 3] (oAload 1 722)), (722, oAload 0 723), (723, oIload 3 724), (724, oPush 1 725), (725, oBin fAdd 726), (726, oScrLd L xs 727), (727, oAload 0 728), (728, oIload 3 729), (729, oPush 2 730), (730, oBin fAdd 731), (731, oScrLd L xs 732), (732, oAload 0 733), (733, oIload 3 734), (734, oPush 3 735), (735, oBin fAdd 736), (736, oScrLd L xs 737), (737, oAload 0 738), (738, oIload 3 739), (739, oPush 4 740), (740, oBin fAdd 741), (741, oScrLd L xs 742), (742, oCallV true (F 50) 5 4 745), (745, oAload 2 746), (746, oAload 0 747), (747, oIload 3 748), (748, oPush 1 749), (749, oBin fAdd 750), (750, oScrLd L xs 751), (751, oAload 0 752), (752, oIload 3 753), (753, oPush 2 754), (754, oBin fAdd 755), (755, oScrLd L xs 756), (756, oAload 0 757), (757, oIload 3 758), (758, oPush 3 759), (759, oBin fAdd 760), (760, oScrLd L xs 761), (761, oAload 0 762), (762, oIload 3 763), (763, oPush 4 764), (764, oBin fAdd 765), (765, oScrLd L xs 766), (766, oCallV true (F 137) 6 4 769), (769, oIc_eq 1437 772), (772, oPush 0 773), (773, oZret)]
def kL17 (F : Nat → List Value → MS → Option MR) (L : Nat) (xs : Nat → Int32) : List (Nat × MOp) := [(774, oKeep [0, 1, 2, 3] (oAload 1 775)), (775, oAload 0 776), (776, oIload 3 777), (777, oPush 1 778), (778, oBin fAdd 779), (779, oScrLd L xs 780), (780, oAload 0 781), (781, oIload 3 782), (782, oPush 2 783), (783, oBin fAdd 784), (784, oScrLd L xs 785), (785, oCallV true (F 51) 5 2 788), (788, oAload 2 789), (789, oAload 0 790), (790, oIload 3 791), (791, oPush 1 792), (792, oBin fAdd 793), (793, oScrLd L xs 794), (794, oAload 0 795), (795, oIload 3 796), (796, oPush 2 797), (797, oBin fAdd 798), (798, oScrLd L xs 799), (799, oCallV true (F 139) 6 2 802), (802, oIc_eq 1437 805), (805, oPush 0 806), (806, oZret)]
def kL18 (F : Nat → List Value → MS → Option MR) (L : Nat) (xs : Nat → Int32) : List (Nat × MOp) := [(807, oKeep [0, 1, 2, 3] (oAload 1 808)), (808, oAload 0 809), (809, oIload 3 810), (810, oPush 1 811), (811, oBin fAdd 812), (812, oScrLd L xs 813), (813, oCallV true (F 52) 5 1 816), (816, oAload 2 817), (817, oAload 0 818), (818, oIload 3 819), (819, oPush 1 820), (820, oBin fAdd 821), (821, oScrLd L xs 822), (822, oCallV true (F 140) 6 1 825), (825, oIc_eq 1437 828), (828, oPush 0 829), (829, oZret)]
def kL19 (F : Nat → List Value → MS → Option MR) (L : Nat) (xs : Nat → Int32) : List (Nat × MOp) := [(830, oKeep [0, 1, 2, 3] (oAload 1 831)), (831, oAload 0 832), (832, oIload 3 833), (833, oPush 1 834), (834, oBin fAdd 835), (835, oScrLd L xs 836), (836, oCallV true (F 53) 5 1 839), (839, oAload 2 840), (840, oAload 0 841), (841, oIload 3 842), (842, oPush 1 843), (843, oBin fAdd 844), (844, oScrLd L xs 845), (845, oCallV true (F 142) 6 1 848), (848, oIc_eq 1437 851), (851, oPush 0 852), (852, oZret)]
def kL20 (F : Nat → List Value → MS → Option MR) (L : Nat) (xs : Nat → Int32) : List (Nat × MOp) := [(853, oKeep [0, 1, 2, 3] (oAload 1 854)), (854, oAload 0 855), (855, oIload 3 856), (856, oPush 1 857), (857, oBin fAdd 858), (858, oScrLd L xs 859), (859, oCallV true (F 54) 5 1 862), (862, oAload 2 863), (863, oAload 0 864), (864, oIload 3 865), (865, oPush 1 866), (866, oBin fAdd 867), (867, oScrLd L xs 868), (868, oCallV true (F 143) 6 1 871), (871, oIc_eq 1437 874), (874, oPush 0 875), (875, oZret)]
def kL21 (F : Nat → List Value → MS → Option MR) (L : Nat) (xs : Nat → Int32) : List (Nat × MOp) := [(876, oKeep [0, 1, 2, 3] (oAload 1 877)), (877, oAload 0 878), (878, oIload 3 879), (879, oPush 1 880), (880, oBin fAdd 881), (881, oScrLd L xs 882), (882, oAload 0 883), (883, oIload 3 884), (884, oPush 2 885), (885, oBin fAdd 886), (886, oScrLd L xs 887), (887, oAload 0 888), (888, oIload 3 889), (889, oPush 3 890), (890, oBin fAdd 891), (891, oScrLd L xs 892), (892, oAload 0 893), (893, oIload 3 894), (894, oPush 4 895), (895, oBin fAdd 896), (896, oScrLd L xs 897), (897, oCallV true (F 55) 5 4 900), (900, oAload 2 901), (901, oAload 0 902), (902, oIload 3 903), (903, oPush 1 904), (904, oBin fAdd 905), (905, oScrLd L xs 906), (906, oAload 0 907), (907, oIload 3 908), (908, oPush 2 909), (909, oBin fAdd 910), (910, oScrLd L xs 911), (911, oAload 0 912), (912, oIload 3 913), (913, oPush 3 914), (914, oBin fAdd 915), (915, oScrLd L xs 916), (916, oAload 0 917), (917, oIload 3 918), (918, oPush 4 919), (919, oBin fAdd 920), (920, oScrLd L xs 921), (921, oCallV true (F 144) 6 4 924), (924, oIc_eq 1437 927), (927, oPush 0 928), (928, oZret)]
def kL22 (F : Nat → List Value → MS → Option MR) (L : Nat) (xs : Nat → Int32) : List (Nat × MOp) := [(929, oKeep [0, 1, 2, 3] (oAload 1 930)), (930, oAload 0 931), (931, oIload 3 932), (932, oPush 1 933), (933, oBin fAdd 934), (934, oScrLd L xs 935), (935, oAload 0 936), (936, oIload 3 937), (937, oPush 2 938), (938, oBin fAdd 939), (939, oScrLd L xs 940), (940, oAload 0 941), (941, oIload 3 942), (942, oPush 3 943), (943, oBin fAdd 944), (944, oScrLd L xs 945), (945, oAload 0 946), (946, oIload 3 947), (947, oPush 4 948), (948, oBin fAdd 949), (949, oScrLd L xs 950), (950, oAload 0 951), (951, oIload 3 952), (952, oPush 5 953), (953, oBin fAdd 954), (954, oScrLd L xs 955), (955, oCallV true (F 56) 5 5 958), (958, oAload 2 959), (959, oAload 0 960), (960, oIload 3 961), (961, oPush 1 962), (962, oBin fAdd 963), (963, oScrLd L xs 964), (964, oAload 0 965), (965, oIload 3 966), (966, oPush 2 967), (967, oBin fAdd 968), (968, oScrLd L xs 969), (969, oAload 0 970), (970, oIload 3 971), (971, oPush 3 972), (972, oBin fAdd 973), (973, oScrLd L xs 974), (974, oAload 0 975), (975, oIload 3 976), (976, oPush 4 977), (977, oBin fAdd 978), (978, oScrLd L xs 979), (979, oAload 0 980), (980, oIload 3 981), (981, oPush 5 982), (982, oBin fAdd 983), (983, oScrLd L xs 984), (984, oCallV true (F 145) 6 5 987), (987, oIc_eq 1437 990), (990, oPush 0 991), (991, oZret)]
def kL23 (F : Nat → List Value → MS → Option MR) (L : Nat) (xs : Nat → Int32) : List (Nat × MOp) := [(992, oKeep [0, 1, 2, 3] (oAload 1 993)), (993, oAload 0 994), (994, oIload 3 995), (995, oPush 1 996), (996, oBin fAdd 997), (997, oScrLd L xs 998), (998, oAload 0 999), (999, oIload 3 1000), (1000, oPush 2 1001), (1001, oBin fAdd 1002), (1002, oScrLd L xs 1003), (1003, oAload 0 1004), (1004, oIload 3 1005), (1005, oPush 3 1006), (1006, oBin fAdd 1007), (1007, oScrLd L xs 1008), (1008, oCallV true (F 57) 5 3 1011), (1011, oAload 2 1012), (1012, oAload 0 1013), (1013, oIload 3 1014), (1014, oPush 1 1015), (1015, oBin fAdd 1016), (1016, oScrLd L xs 1017), (1017, oAload 0 1018), (1018, oIload 3 1019), (1019, oPush 2 1020), (1020, oBin fAdd 1021), (1021, oScrLd L xs 1022), (1022, oAload 0 1023), (1023, oIload 3 1024), (1024, oPush 3 1025), (1025, oBin fAdd 1026), (1026, oScrLd L xs 1027), (1027, oCallV true (F 146) 6 3 1030), (1030, oIc_eq 1437 1033), (1033, oPush 0 1034), (1034, oZret)]
def kL24 (F : Nat → List Value → MS → Option MR) (L : Nat) (xs : Nat → Int32) : List (Nat × MOp) := [(1035, oKeep [0, 1, 2, 3] (oAload 1 1036)), (1036, oAload 0 1037), (1037, oIload 3 1038), (1038, oPush 1 1039), (1039, oBin fAdd 1040), (1040, oScrLd L xs 1041), (1041, oAload 0 1042), (1042, oIload 3 1043), (1043, oPush 2 1044), (1044, oBin fAdd 1045), (1045, oScrLd L xs 1046), (1046, oCallV true (F 58) 5 2 1049), (1049, oAload 2 1050), (1050, oAload 0 1051), (1051, oIload 3 1052), (1052, oPush 1 1053), (1053, oBin fAdd 1054), (1054, oScrLd L xs 1055), (1055, oAload 0 1056), (1056, oIload 3 1057), (1057, oPush 2 1058), (1058, oBin fAdd 1059), (1059, oScrLd L xs 1060), (1060, oCallV true (F 148) 6 2 1063), (1063, oIc_eq 1437 1066), (1066, oPush 0 1067), (1067, oZret)]
def kL25 (F : Nat → List Value → MS → Option MR) (L : Nat) (xs : Nat → Int32) : List (Nat × MOp) := [(1068, oKeep [0, 1, 2, 3] (oAload 1 1069)), (1069, oAload 0 1070), (1070, oIload 3 1071), (1071, oPush 1 1072), (1072, oBin fAdd 1073), (1073, oScrLd L xs 1074), (1074, oAload 0 1075), (1075, oIload 3 1076), (1076, oPush 2 1077), (1077, oBin fAdd 1078), (1078, oScrLd L xs 1079), (1079, oAload 0 1080), (1080, oIload 3 1081), (1081, oPush 3 1082), (1082, oBin fAdd 1083), (1083, oScrLd L xs 1084), (1084, oCallV true (F 59) 5 3 1087), (1087, oAload 2 1088), (1088, oAload 0 1089), (1089, oIload 3 1090), (1090, oPush 1 1091), (1091, oBin fAdd 1092), (1092, oScrLd L xs 1093), (1093, oAload 0 1094), (1094, oIload 3 1095), (1095, oPush 2 1096), (1096, oBin fAdd 1097), (1097, oScrLd L xs 1098), (1098, oAload 0 1099), (1099, oIload 3 1100), (1100, oPush 3 1101), (1101, oBin fAdd 1102), (1102, oScrLd L xs 1103), (1103, oCallV true (F 160) 6 3 1106), (1106, oIc_eq 1437 1109), (1109, oPush 0 1110), (1110, oZret)]
def kL26 (F : Nat → List Value → MS → Option MR) (L : Nat) (xs : Nat → Int32) : List (Nat × MOp) := [(1111, oKeep [0, 1, 2, 3] (oAload 1 1112)), (1112, oAload 0 1113), (1113, oIload 3 1114), (1114, oPush 1 1115), (1115, oBin fAdd 1116), (1116, oScrLd L xs 1117), (1117, oCallV true (F 60) 5 1 1120), (1120, oAload 2 1121), (1121, oAload 0 1122), (1122, oIload 3 1123), (1123, oPush 1 1124), (1124, oBin fAdd 1125), (1125, oScrLd L xs 1126), (1126, oCallV true (F 161) 6 1 1129), (1129, oIc_eq 1437 1132), (1132, oPush 0 1133), (1133, oZret)]
def kL27 (F : Nat → List Value → MS → Option MR) (L : Nat) (xs : Nat → Int32) : List (Nat × MOp) := [(1134, oKeep [0, 1, 2, 3] (oAload 1 1135)), (1135, oAload 0 1136), (1136, oIload 3 1137), (1137, oPush 1 1138), (1138, oBin fAdd 1139), (1139, oScrLd L xs 1140), (1140, oAload 0 1141), (1141, oIload 3 1142), (1142, oPush 2 1143), (1143, oBin fAdd 1144), (1144, oScrLd L xs 1145), (1145, oAload 0 1146), (1146, oIload 3 1147), (1147, oPush 3 1148), (1148, oBin fAdd 1149), (1149, oScrLd L xs 1150), (1150, oCallV true (F 61) 5 3 1153), (1153, oAload 2 1154), (1154, oAload 0 1155), (1155, oIload 3 1156), (1156, oPush 1 1157), (1157, oBin fAdd 1158), (1158, oScrLd L xs 1159), (1159, oAload 0 1160), (1160, oIload 3 1161), (1161, oPush 2 1162), (1162, oBin fAdd 1163), (1163, oScrLd L xs 1164), (1164, oAload 0 1165), (1165, oIload 3 1166), (1166, oPush 3 1167), (1167, oBin fAdd 1168), (1168, oScrLd L xs 1169), (1169, oCallV true (F 163) 6 3 1172), (1172, oIc_eq 1437 1175), (1175, oPush 0 1176), (1176, oZret)]
def kL28 (F : Nat → List Value → MS → Option MR) (L : Nat) (xs : Nat → Int32) : List (Nat × MOp) := [(1177, oKeep [0, 1, 2, 3] (oAload 1 1178)), (1178, oAload 0 1179), (1179, oIload 3 1180), (1180, oPush 1 1181), (1181, oBin fAdd 1182), (1182, oScrLd L xs 1183), (1183, oAload 0 1184), (1184, oIload 3 1185), (1185, oPush 2 1186), (1186, oBin fAdd 1187), (1187, oScrLd L xs 1188), (1188, oAload 0 1189), (1189, oIload 3 1190), (1190, oPush 3 1191), (1191, oBin fAdd 1192), (1192, oScrLd L xs 1193), (1193, oCallV true (F 62) 5 3 1196), (1196, oAload 2 1197), (1197, oAload 0 1198), (1198, oIload 3 1199), (1199, oPush 1 1200), (1200, oBin fAdd 1201), (1201, oScrLd L xs 1202), (1202, oAload 0 1203), (1203, oIload 3 1204), (1204, oPush 2 1205), (1205, oBin fAdd 1206), (1206, oScrLd L xs 1207), (1207, oAload 0 1208), (1208, oIload 3 1209), (1209, oPush 3 1210), (1210, oBin fAdd 1211), (1211, oScrLd L xs 1212), (1212, oCallV true (F 165) 6 3 1215), (1215, oIc_eq 1437 1218), (1218, oPush 0 1219), (1219, oZret)]
def kL29 (F : Nat → List Value → MS → Option MR) (L : Nat) (xs : Nat → Int32) : List (Nat × MOp) := [(1220, oKeep [0, 1, 2, 3] (oAload 1 1221)), (1221, oAload 0 1222), (1222, oIload 3 1223), (1223, oPush 1 1224), (1224, oBin fAdd 1225), (1225, oScrLd L xs 1226), (1226, oAload 0 1227), (1227, oIload 3 1228), (1228, oPush 2 1229), (1229, oBin fAdd 1230), (1230, oScrLd L xs 1231), (1231, oAload 0 1232), (1232, oIload 3 1233), (1233, oPush 3 1234), (1234, oBin fAdd 1235), (1235, oScrLd L xs 1236), (1236, oAload 0 1237), (1237, oIload 3 1238), (1238, oPush 4 1239), (1239, oBin fAdd 1240), (1240, oScrLd L xs 1241), (1241, oAload 0 1242), (1242, oIload 3 1243), (1243, oPush 5 1244), (1244, oBin fAdd 1245), (1245, oScrLd L xs 1246), (1246, oCallV true (F 63) 5 5 1249), (1249, oAload 2 1250), (1250, oAload 0 1251), (1251, oIload 3 1252), (1252, oPush 1 1253), (1253, oBin fAdd 1254), (1254, oScrLd L xs 1255), (1255, oAload 0 1256), (1256, oIload 3 1257), (1257, oPush 2 1258), (1258, oBin fAdd 1259), (1259, oScrLd L xs 1260), (1260, oAload 0 1261), (1261, oIload 3 1262), (1262, oPush 3 1263), (1263, oBin fAdd 1264), (1264, oScrLd L xs 1265), (1265, oAload 0 1266), (1266, oIload 3 1267), (1267, oPush 4 1268), (1268, oBin fAdd 1269), (1269, oScrLd L xs 1270), (1270, oAload 0 1271), (1271, oIload 3 1272), (1272, oPush 5 1273), (1273, oBin fAdd 1274), (1274, oScrLd L xs 1275), (1275, oCallV true (F 167) 6 5 1278), (1278, oIc_eq 1437 1281), (1281, oPush 0 1282), (1282, oZret)]
def kL30 (F : Nat → List Value → MS → Option MR) (L : Nat) (xs : Nat → Int32) : List (Nat × MOp) := [(1283, oKeep [0, 1, 2, 3] (oAload 1 1284)), (1284, oAload 0 1285), (1285, oIload 3 1286), (1286, oPush 1 1287), (1287, oBin fAdd 1288), (1288, oScrLd L xs 1289), (1289, oCallV true (F 64) 5 1 1292), (1292, oAload 2 1293), (1293, oAload 0 1294), (1294, oIload 3 1295), (1295, oPush 1 1296), (1296, oBin fAdd 1297), (1297, oScrLd L xs 1298), (1298, oCallV true (F 168) 6 1 1301), (1301, oIc_eq 1437 1304), (1304, oPush 0 1305), (1305, oZret)]
def kL31 (F : Nat → List Value → MS → Option MR) (L : Nat) (xs : Nat → Int32) : List (Nat × MOp) := [(1306, oKeep [0, 1, 2, 3] (oAload 1 1307)), (1307, oAload 0 1308), (1308, oIload 3 1309), (1309, oPush 1 1310), (1310, oBin fAdd 1311), (1311, oScrLd L xs 1312), (1312, oCallV true (F 65) 5 1 1315), (1315, oAload 2 1316), (1316, oAload 0 1317), (1317, oIload 3 1318), (1318, oPush 1 1319), (1319, oBin fAdd 1320), (1320, oScrLd L xs 1321), (1321, oCallV true (F 169) 6 1 1324), (1324, oIc_eq 1437 1327), (1327, oPush 0 1328), (1328, oZret)]
def kL32 (F : Nat → List Value → MS → Option MR) (L : Nat) (xs : Nat → Int32) : List (Nat × MOp) := [(1329, oKeep [0, 1, 2, 3] (oAload 1 1330)), (1330, oCallV true (F 66) 5 0 1333), (1333, oAload 2 1334), (1334, oCallV true (F 170) 6 0 1337), (1337, oIc_eq 1437 1340), (1340, oPush 0 1341), (1341, oZret)]
def kL33 (F : Nat → List Value → MS → Option MR) (L : Nat) (xs : Nat → Int32) : List (Nat × MOp) := [(1342, oKeep [0, 1, 2, 3] (oAload 1 1343)), (1343, oCallV true (F 67) 5 0 1346), (1346, oAload 2 1347), (1347, oCallV true (F 171) 6 0 1350), (1350, oIc_eq 1437 1353), (1353, oPush 0 1354), (1354, oZret)]
def kL34 (F : Nat → List Value → MS → Option MR) (L : Nat) (xs : Nat → Int32) : List (Nat × MOp) := [(1355, oKeep [0, 1, 2, 3] (oAload 1 1356)), (1356, oAload 0 1357), (1357, oIload 3 1358), (1358, oPush 1 1359), (1359, oBin fAdd 1360), (1360, oScrLd L xs 1361), (1361, oCallV true (F 68) 5 1 1364), (1364, oAload 2 1365), (1365, oAload 0 1366), (1366, oIload 3 1367), (1367, oPush 1 1368), (1368, oBin fAdd 1369), (1369, oScrLd L xs 1370), (1370, oCallV true (F 172) 6 1 1373), (1373, oIc_eq 1437 1376), (1376, oPush 0 1377), (1377, oZret)]
def kL35 (F : Nat → List Value → MS → Option MR) (L : Nat) (xs : Nat → Int32) : List (Nat × MOp) := [(1378, oKeep [0, 1, 2, 3] (oAload 1 1379)), (1379, oCallV true (F 69) 5 0 1382), (1382, oAload 2 1383), (1383, oCallV true (F 173) 6 0 1386), (1386, oIc_eq 1437 1389), (1389, oPush 0 1390), (1390, oZret)]
def kL36 (F : Nat → List Value → MS → Option MR) (L : Nat) (xs : Nat → Int32) : List (Nat × MOp) := [(1391, oKeep [0, 1, 2, 3] (oAload 1 1392)), (1392, oAload 0 1393), (1393, oIload 3 1394), (1394, oPush 1 1395), (1395, oBin fAdd 1396), (1396, oScrLd L xs 1397), (1397, oCallV true (F 70) 5 1 1400), (1400, oAload 2 1401), (1401, oAload 0 1402), (1402, oIload 3 1403), (1403, oPush 1 1404), (1404, oBin fAdd 1405), (1405, oScrLd L xs 1406), (1406, oCallV true (F 174) 6 1 1409), (1409, oIc_eq 1437 1412), (1412, oPush 0 1413), (1413, oZret)]
def kL37 (F : Nat → List Value → MS → Option MR) (L : Nat) (xs : Nat → Int32) : List (Nat × MOp) := [(1414, oKeep [0, 1, 2, 3] (oAload 1 1415)), (1415, oAload 0 1416), (1416, oIload 3 1417), (1417, oPush 1 1418), (1418, oBin fAdd 1419), (1419, oScrLd L xs 1420), (1420, oCallV true (F 71) 5 1 1423), (1423, oAload 2 1424), (1424, oAload 0 1425), (1425, oIload 3 1426), (1426, oPush 1 1427), (1427, oBin fAdd 1428), (1428, oScrLd L xs 1429), (1429, oCallV true (F 175) 6 1 1432), (1432, oIc_eq 1437 1435), (1435, oPush 0 1436), (1436, oZret)]
def kL38 (F : Nat → List Value → MS → Option MR) (L : Nat) (xs : Nat → Int32) : List (Nat × MOp) := [(1437, oKeep [0, 1, 2, 3] (oIinc 3 6 1440)), (1440, oGoto 18), (1443, oPush 1 1444), (1444, oZret)]
def kL (F : Nat → List Value → MS → Option MR) (L : Nat) (xs : Nat → Int32) : List (Nat × MOp) := kL0 F L xs ++ (kL1 F L xs ++ (kL2 F L xs ++ (kL3 F L xs ++ (kL4 F L xs ++ (kL5 F L xs ++ (kL6 F L xs ++ (kL7 F L xs ++ (kL8 F L xs ++ (kL9 F L xs ++ (kL10 F L xs ++ (kL11 F L xs ++ (kL12 F L xs ++ (kL13 F L xs ++ (kL14 F L xs ++ (kL15 F L xs ++ (kL16 F L xs ++ (kL17 F L xs ++ (kL18 F L xs ++ (kL19 F L xs ++ (kL20 F L xs ++ (kL21 F L xs ++ (kL22 F L xs ++ (kL23 F L xs ++ (kL24 F L xs ++ (kL25 F L xs ++ (kL26 F L xs ++ (kL27 F L xs ++ (kL28 F L xs ++ (kL29 F L xs ++ (kL30 F L xs ++ (kL31 F L xs ++ (kL32 F L xs ++ (kL33 F L xs ++ (kL34 F L xs ++ (kL35 F L xs ++ (kL36 F L xs ++ (kL37 F L xs ++ (kL38 F L xs))))))))))))))))))))))))))))))))))))))
section
variable {l : Launch} {D : va_G} {ca : Nat → ClassId} {ad : Nat → Nat} {d : Nat} {F : Nat → List Value → MS → Option MR} {p : Program} {e : Env} {R : Room} {s : State} {m : MethodId} {args : Array Value} {below : List Frame} {meth : Method} {c : Code} {Q : State → Prop} {A : Nat → Prop} {nc ns L : Nat} {xs : Nat → Int32}
set_option maxRecDepth 100000 in
theorem sdkL0 (hF : HF l D ca ad d F) (X : mX p s m args meth c R cL_law 4 RL (some .boolean) A D ca ad nc ns d) (hX : va_X (ad 1002) L xs s s.heap) (hbl : ad 1002 < s.heap.size) (hbA : ¬ A (ad 1002)) : ∀ q ∈ kL0 F L xs, mSnd (mAt p l e R s m args below meth c Q A D ca ad nc ns 4) (mJ p l e R s m args below meth c Q A D ca ad nc ns cL_law (some .boolean)) q.1 q.2 :=
  List.forall_mem_cons.mpr ⟨s_keep (s_iload_n X dL_law_18 rfl),
  List.forall_mem_cons.mpr ⟨s_aload_n X dL_law_19 rfl,
  List.forall_mem_cons.mpr ⟨s_scrLen X hX hbl hbA dL_law_20,
  List.forall_mem_cons.mpr ⟨s_bipush X dL_law_21 (by decide),
  List.forall_mem_cons.mpr ⟨s_isub X dL_law_23,
  List.forall_mem_cons.mpr ⟨s_icmp_gt X dL_law_24 (by decide),
  List.forall_mem_cons.mpr ⟨s_aload_n X dL_law_27 rfl,
  List.forall_mem_cons.mpr ⟨s_iload_n X dL_law_28 rfl,
  List.forall_mem_cons.mpr ⟨s_scrLd X hX hbl hbA dL_law_29,
  List.forall_mem_cons.mpr ⟨s_bipush X dL_law_30 (by decide),
  List.forall_mem_cons.mpr ⟨s_iand X dL_law_32,
  List.forall_mem_cons.mpr ⟨s_tsw X dL_law_33 (by decide) (by decide) (by decide +kernel),
  fun _ h => absurd h List.not_mem_nil⟩⟩⟩⟩⟩⟩⟩⟩⟩⟩⟩⟩
set_option maxRecDepth 100000 in
theorem sdkL1 (hF : HF l D ca ad d F) (X : mX p s m args meth c R cL_law 4 RL (some .boolean) A D ca ad nc ns d) (hX : va_X (ad 1002) L xs s s.heap) (hbl : ad 1002 < s.heap.size) (hbA : ¬ A (ad 1002)) : ∀ q ∈ kL1 F L xs, mSnd (mAt p l e R s m args below meth c Q A D ca ad nc ns 4) (mJ p l e R s m args below meth c Q A D ca ad nc ns cL_law (some .boolean)) q.1 q.2 :=
  List.forall_mem_cons.mpr ⟨s_keep (s_aload_n X dL_law_196 rfl),
  List.forall_mem_cons.mpr ⟨s_aload_n X dL_law_197 rfl,
  List.forall_mem_cons.mpr ⟨s_iload_n X dL_law_198 rfl,
  List.forall_mem_cons.mpr ⟨s_iconst X dL_law_199 (by decide),
  List.forall_mem_cons.mpr ⟨s_iadd X dL_law_200,
  List.forall_mem_cons.mpr ⟨s_scrLd X hX hbl hbA dL_law_201,
  List.forall_mem_cons.mpr ⟨s_aload_n X dL_law_202 rfl,
  List.forall_mem_cons.mpr ⟨s_iload_n X dL_law_203 rfl,
  List.forall_mem_cons.mpr ⟨s_iconst X dL_law_204 (by decide),
  List.forall_mem_cons.mpr ⟨s_iadd X dL_law_205,
  List.forall_mem_cons.mpr ⟨s_scrLd X hX hbl hbA dL_law_206,
  List.forall_mem_cons.mpr ⟨s_callV X (hF_X5_fountain hF) wco_X5_fountain ml_RL_13 cl_5 wim_X5_fountain wse_X5_fountain win_FountainTalk ⟨by decide +kernel, by decide +kernel, by decide +kernel, by decide +kernel⟩ (by decide) dL_law_207,
  List.forall_mem_cons.mpr ⟨s_aload_n X dL_law_210 rfl,
  List.forall_mem_cons.mpr ⟨s_aload_n X dL_law_211 rfl,
  List.forall_mem_cons.mpr ⟨s_iload_n X dL_law_212 rfl,
  List.forall_mem_cons.mpr ⟨s_iconst X dL_law_213 (by decide),
  List.forall_mem_cons.mpr ⟨s_iadd X dL_law_214,
  List.forall_mem_cons.mpr ⟨s_scrLd X hX hbl hbA dL_law_215,
  List.forall_mem_cons.mpr ⟨s_aload_n X dL_law_216 rfl,
  List.forall_mem_cons.mpr ⟨s_iload_n X dL_law_217 rfl,
  List.forall_mem_cons.mpr ⟨s_iconst X dL_law_218 (by decide),
  List.forall_mem_cons.mpr ⟨s_iadd X dL_law_219,
  List.forall_mem_cons.mpr ⟨s_scrLd X hX hbl hbA dL_law_220,
  List.forall_mem_cons.mpr ⟨s_callV X (hF_X6_fountain hF) wco_X6_fountain ml_RL_17 cl_6 wim_X6_fountain wse_X6_fountain win_FountainTalkModel ⟨by decide +kernel, by decide +kernel, by decide +kernel, by decide +kernel⟩ (by decide) dL_law_221,
  List.forall_mem_cons.mpr ⟨s_icmp_eq X dL_law_224 (by decide),
  List.forall_mem_cons.mpr ⟨s_iconst X dL_law_227 (by decide),
  List.forall_mem_cons.mpr ⟨s_zreturn rfl dL_law_228,
  fun _ h => absurd h List.not_mem_nil⟩⟩⟩⟩⟩⟩⟩⟩⟩⟩⟩⟩⟩⟩⟩⟩⟩⟩⟩⟩⟩⟩⟩⟩⟩⟩⟩
set_option maxRecDepth 100000 in
theorem sdkL2 (hF : HF l D ca ad d F) (X : mX p s m args meth c R cL_law 4 RL (some .boolean) A D ca ad nc ns d) (hX : va_X (ad 1002) L xs s s.heap) (hbl : ad 1002 < s.heap.size) (hbA : ¬ A (ad 1002)) : ∀ q ∈ kL2 F L xs, mSnd (mAt p l e R s m args below meth c Q A D ca ad nc ns 4) (mJ p l e R s m args below meth c Q A D ca ad nc ns cL_law (some .boolean)) q.1 q.2 :=
  List.forall_mem_cons.mpr ⟨s_keep (s_aload_n X dL_law_229 rfl),
  List.forall_mem_cons.mpr ⟨s_aload_n X dL_law_230 rfl,
  List.forall_mem_cons.mpr ⟨s_iload_n X dL_law_231 rfl,
  List.forall_mem_cons.mpr ⟨s_iconst X dL_law_232 (by decide),
  List.forall_mem_cons.mpr ⟨s_iadd X dL_law_233,
  List.forall_mem_cons.mpr ⟨s_scrLd X hX hbl hbA dL_law_234,
  List.forall_mem_cons.mpr ⟨s_aload_n X dL_law_235 rfl,
  List.forall_mem_cons.mpr ⟨s_iload_n X dL_law_236 rfl,
  List.forall_mem_cons.mpr ⟨s_iconst X dL_law_237 (by decide),
  List.forall_mem_cons.mpr ⟨s_iadd X dL_law_238,
  List.forall_mem_cons.mpr ⟨s_scrLd X hX hbl hbA dL_law_239,
  List.forall_mem_cons.mpr ⟨s_callV X (hF_X5_fountainIs hF) wco_X5_fountainIs ml_RL_18 cl_5 wim_X5_fountainIs wse_X5_fountainIs win_FountainTalk ⟨by decide +kernel, by decide +kernel, by decide +kernel, by decide +kernel⟩ (by decide) dL_law_240,
  List.forall_mem_cons.mpr ⟨s_aload_n X dL_law_243 rfl,
  List.forall_mem_cons.mpr ⟨s_aload_n X dL_law_244 rfl,
  List.forall_mem_cons.mpr ⟨s_iload_n X dL_law_245 rfl,
  List.forall_mem_cons.mpr ⟨s_iconst X dL_law_246 (by decide),
  List.forall_mem_cons.mpr ⟨s_iadd X dL_law_247,
  List.forall_mem_cons.mpr ⟨s_scrLd X hX hbl hbA dL_law_248,
  List.forall_mem_cons.mpr ⟨s_aload_n X dL_law_249 rfl,
  List.forall_mem_cons.mpr ⟨s_iload_n X dL_law_250 rfl,
  List.forall_mem_cons.mpr ⟨s_iconst X dL_law_251 (by decide),
  List.forall_mem_cons.mpr ⟨s_iadd X dL_law_252,
  List.forall_mem_cons.mpr ⟨s_scrLd X hX hbl hbA dL_law_253,
  List.forall_mem_cons.mpr ⟨s_callV X (hF_X6_fountainIs hF) wco_X6_fountainIs ml_RL_21 cl_6 wim_X6_fountainIs wse_X6_fountainIs win_FountainTalkModel ⟨by decide +kernel, by decide +kernel, by decide +kernel, by decide +kernel⟩ (by decide) dL_law_254,
  List.forall_mem_cons.mpr ⟨s_icmp_eq X dL_law_257 (by decide),
  List.forall_mem_cons.mpr ⟨s_iconst X dL_law_260 (by decide),
  List.forall_mem_cons.mpr ⟨s_zreturn rfl dL_law_261,
  fun _ h => absurd h List.not_mem_nil⟩⟩⟩⟩⟩⟩⟩⟩⟩⟩⟩⟩⟩⟩⟩⟩⟩⟩⟩⟩⟩⟩⟩⟩⟩⟩⟩
set_option maxRecDepth 100000 in
theorem sdkL3 (hF : HF l D ca ad d F) (X : mX p s m args meth c R cL_law 4 RL (some .boolean) A D ca ad nc ns d) (hX : va_X (ad 1002) L xs s s.heap) (hbl : ad 1002 < s.heap.size) (hbA : ¬ A (ad 1002)) : ∀ q ∈ kL3 F L xs, mSnd (mAt p l e R s m args below meth c Q A D ca ad nc ns 4) (mJ p l e R s m args below meth c Q A D ca ad nc ns cL_law (some .boolean)) q.1 q.2 :=
  List.forall_mem_cons.mpr ⟨s_keep (s_aload_n X dL_law_262 rfl),
  List.forall_mem_cons.mpr ⟨s_aload_n X dL_law_263 rfl,
  List.forall_mem_cons.mpr ⟨s_iload_n X dL_law_264 rfl,
  List.forall_mem_cons.mpr ⟨s_iconst X dL_law_265 (by decide),
  List.forall_mem_cons.mpr ⟨s_iadd X dL_law_266,
  List.forall_mem_cons.mpr ⟨s_scrLd X hX hbl hbA dL_law_267,
  List.forall_mem_cons.mpr ⟨s_aload_n X dL_law_268 rfl,
  List.forall_mem_cons.mpr ⟨s_iload_n X dL_law_269 rfl,
  List.forall_mem_cons.mpr ⟨s_iconst X dL_law_270 (by decide),
  List.forall_mem_cons.mpr ⟨s_iadd X dL_law_271,
  List.forall_mem_cons.mpr ⟨s_scrLd X hX hbl hbA dL_law_272,
  List.forall_mem_cons.mpr ⟨s_callV X (hF_X5_become hF) wco_X5_become ml_RL_22 cl_5 wim_X5_become wse_X5_become win_FountainTalk ⟨by decide +kernel, by decide +kernel, by decide +kernel, by decide +kernel⟩ (by decide) dL_law_273,
  List.forall_mem_cons.mpr ⟨s_aload_n X dL_law_276 rfl,
  List.forall_mem_cons.mpr ⟨s_aload_n X dL_law_277 rfl,
  List.forall_mem_cons.mpr ⟨s_iload_n X dL_law_278 rfl,
  List.forall_mem_cons.mpr ⟨s_iconst X dL_law_279 (by decide),
  List.forall_mem_cons.mpr ⟨s_iadd X dL_law_280,
  List.forall_mem_cons.mpr ⟨s_scrLd X hX hbl hbA dL_law_281,
  List.forall_mem_cons.mpr ⟨s_aload_n X dL_law_282 rfl,
  List.forall_mem_cons.mpr ⟨s_iload_n X dL_law_283 rfl,
  List.forall_mem_cons.mpr ⟨s_iconst X dL_law_284 (by decide),
  List.forall_mem_cons.mpr ⟨s_iadd X dL_law_285,
  List.forall_mem_cons.mpr ⟨s_scrLd X hX hbl hbA dL_law_286,
  List.forall_mem_cons.mpr ⟨s_callV X (hF_X6_become hF) wco_X6_become ml_RL_25 cl_6 wim_X6_become wse_X6_become win_FountainTalkModel ⟨by decide +kernel, by decide +kernel, by decide +kernel, by decide +kernel⟩ (by decide) dL_law_287,
  List.forall_mem_cons.mpr ⟨s_icmp_eq X dL_law_290 (by decide),
  List.forall_mem_cons.mpr ⟨s_iconst X dL_law_293 (by decide),
  List.forall_mem_cons.mpr ⟨s_zreturn rfl dL_law_294,
  fun _ h => absurd h List.not_mem_nil⟩⟩⟩⟩⟩⟩⟩⟩⟩⟩⟩⟩⟩⟩⟩⟩⟩⟩⟩⟩⟩⟩⟩⟩⟩⟩⟩
set_option maxRecDepth 100000 in
theorem sdkL4 (hF : HF l D ca ad d F) (X : mX p s m args meth c R cL_law 4 RL (some .boolean) A D ca ad nc ns d) (hX : va_X (ad 1002) L xs s s.heap) (hbl : ad 1002 < s.heap.size) (hbA : ¬ A (ad 1002)) : ∀ q ∈ kL4 F L xs, mSnd (mAt p l e R s m args below meth c Q A D ca ad nc ns 4) (mJ p l e R s m args below meth c Q A D ca ad nc ns cL_law (some .boolean)) q.1 q.2 :=
  List.forall_mem_cons.mpr ⟨s_keep (s_aload_n X dL_law_295 rfl),
  List.forall_mem_cons.mpr ⟨s_aload_n X dL_law_296 rfl,
  List.forall_mem_cons.mpr ⟨s_iload_n X dL_law_297 rfl,
  List.forall_mem_cons.mpr ⟨s_iconst X dL_law_298 (by decide),
  List.forall_mem_cons.mpr ⟨s_iadd X dL_law_299,
  List.forall_mem_cons.mpr ⟨s_scrLd X hX hbl hbA dL_law_300,
  List.forall_mem_cons.mpr ⟨s_aload_n X dL_law_301 rfl,
  List.forall_mem_cons.mpr ⟨s_iload_n X dL_law_302 rfl,
  List.forall_mem_cons.mpr ⟨s_iconst X dL_law_303 (by decide),
  List.forall_mem_cons.mpr ⟨s_iadd X dL_law_304,
  List.forall_mem_cons.mpr ⟨s_scrLd X hX hbl hbA dL_law_305,
  List.forall_mem_cons.mpr ⟨s_callV X (hF_X5_as hF) wco_X5_as ml_RL_26 cl_5 wim_X5_as wse_X5_as win_FountainTalk ⟨by decide +kernel, by decide +kernel, by decide +kernel, by decide +kernel⟩ (by decide) dL_law_306,
  List.forall_mem_cons.mpr ⟨s_aload_n X dL_law_309 rfl,
  List.forall_mem_cons.mpr ⟨s_aload_n X dL_law_310 rfl,
  List.forall_mem_cons.mpr ⟨s_iload_n X dL_law_311 rfl,
  List.forall_mem_cons.mpr ⟨s_iconst X dL_law_312 (by decide),
  List.forall_mem_cons.mpr ⟨s_iadd X dL_law_313,
  List.forall_mem_cons.mpr ⟨s_scrLd X hX hbl hbA dL_law_314,
  List.forall_mem_cons.mpr ⟨s_aload_n X dL_law_315 rfl,
  List.forall_mem_cons.mpr ⟨s_iload_n X dL_law_316 rfl,
  List.forall_mem_cons.mpr ⟨s_iconst X dL_law_317 (by decide),
  List.forall_mem_cons.mpr ⟨s_iadd X dL_law_318,
  List.forall_mem_cons.mpr ⟨s_scrLd X hX hbl hbA dL_law_319,
  List.forall_mem_cons.mpr ⟨s_callV X (hF_X6_as hF) wco_X6_as ml_RL_29 cl_6 wim_X6_as wse_X6_as win_FountainTalkModel ⟨by decide +kernel, by decide +kernel, by decide +kernel, by decide +kernel⟩ (by decide) dL_law_320,
  List.forall_mem_cons.mpr ⟨s_icmp_eq X dL_law_323 (by decide),
  List.forall_mem_cons.mpr ⟨s_iconst X dL_law_326 (by decide),
  List.forall_mem_cons.mpr ⟨s_zreturn rfl dL_law_327,
  fun _ h => absurd h List.not_mem_nil⟩⟩⟩⟩⟩⟩⟩⟩⟩⟩⟩⟩⟩⟩⟩⟩⟩⟩⟩⟩⟩⟩⟩⟩⟩⟩⟩
set_option maxRecDepth 100000 in
theorem sdkL5 (hF : HF l D ca ad d F) (X : mX p s m args meth c R cL_law 4 RL (some .boolean) A D ca ad nc ns d) (hX : va_X (ad 1002) L xs s s.heap) (hbl : ad 1002 < s.heap.size) (hbA : ¬ A (ad 1002)) : ∀ q ∈ kL5 F L xs, mSnd (mAt p l e R s m args below meth c Q A D ca ad nc ns 4) (mJ p l e R s m args below meth c Q A D ca ad nc ns cL_law (some .boolean)) q.1 q.2 :=
  List.forall_mem_cons.mpr ⟨s_keep (s_aload_n X dL_law_328 rfl),
  List.forall_mem_cons.mpr ⟨s_aload_n X dL_law_329 rfl,
  List.forall_mem_cons.mpr ⟨s_iload_n X dL_law_330 rfl,
  List.forall_mem_cons.mpr ⟨s_iconst X dL_law_331 (by decide),
  List.forall_mem_cons.mpr ⟨s_iadd X dL_law_332,
  List.forall_mem_cons.mpr ⟨s_scrLd X hX hbl hbA dL_law_333,
  List.forall_mem_cons.mpr ⟨s_aload_n X dL_law_334 rfl,
  List.forall_mem_cons.mpr ⟨s_iload_n X dL_law_335 rfl,
  List.forall_mem_cons.mpr ⟨s_iconst X dL_law_336 (by decide),
  List.forall_mem_cons.mpr ⟨s_iadd X dL_law_337,
  List.forall_mem_cons.mpr ⟨s_scrLd X hX hbl hbA dL_law_338,
  List.forall_mem_cons.mpr ⟨s_callV X (hF_X5_says hF) wco_X5_says ml_RL_30 cl_5 wim_X5_says wse_X5_says win_FountainTalk ⟨by decide +kernel, by decide +kernel, by decide +kernel, by decide +kernel⟩ (by decide) dL_law_339,
  List.forall_mem_cons.mpr ⟨s_aload_n X dL_law_342 rfl,
  List.forall_mem_cons.mpr ⟨s_aload_n X dL_law_343 rfl,
  List.forall_mem_cons.mpr ⟨s_iload_n X dL_law_344 rfl,
  List.forall_mem_cons.mpr ⟨s_iconst X dL_law_345 (by decide),
  List.forall_mem_cons.mpr ⟨s_iadd X dL_law_346,
  List.forall_mem_cons.mpr ⟨s_scrLd X hX hbl hbA dL_law_347,
  List.forall_mem_cons.mpr ⟨s_aload_n X dL_law_348 rfl,
  List.forall_mem_cons.mpr ⟨s_iload_n X dL_law_349 rfl,
  List.forall_mem_cons.mpr ⟨s_iconst X dL_law_350 (by decide),
  List.forall_mem_cons.mpr ⟨s_iadd X dL_law_351,
  List.forall_mem_cons.mpr ⟨s_scrLd X hX hbl hbA dL_law_352,
  List.forall_mem_cons.mpr ⟨s_callV X (hF_X6_says hF) wco_X6_says ml_RL_33 cl_6 wim_X6_says wse_X6_says win_FountainTalkModel ⟨by decide +kernel, by decide +kernel, by decide +kernel, by decide +kernel⟩ (by decide) dL_law_353,
  List.forall_mem_cons.mpr ⟨s_icmp_eq X dL_law_356 (by decide),
  List.forall_mem_cons.mpr ⟨s_iconst X dL_law_359 (by decide),
  List.forall_mem_cons.mpr ⟨s_zreturn rfl dL_law_360,
  fun _ h => absurd h List.not_mem_nil⟩⟩⟩⟩⟩⟩⟩⟩⟩⟩⟩⟩⟩⟩⟩⟩⟩⟩⟩⟩⟩⟩⟩⟩⟩⟩⟩
set_option maxRecDepth 100000 in
theorem sdkL6 (hF : HF l D ca ad d F) (X : mX p s m args meth c R cL_law 4 RL (some .boolean) A D ca ad nc ns d) (hX : va_X (ad 1002) L xs s s.heap) (hbl : ad 1002 < s.heap.size) (hbA : ¬ A (ad 1002)) : ∀ q ∈ kL6 F L xs, mSnd (mAt p l e R s m args below meth c Q A D ca ad nc ns 4) (mJ p l e R s m args below meth c Q A D ca ad nc ns cL_law (some .boolean)) q.1 q.2 :=
  List.forall_mem_cons.mpr ⟨s_keep (s_aload_n X dL_law_361 rfl),
  List.forall_mem_cons.mpr ⟨s_aload_n X dL_law_362 rfl,
  List.forall_mem_cons.mpr ⟨s_iload_n X dL_law_363 rfl,
  List.forall_mem_cons.mpr ⟨s_iconst X dL_law_364 (by decide),
  List.forall_mem_cons.mpr ⟨s_iadd X dL_law_365,
  List.forall_mem_cons.mpr ⟨s_scrLd X hX hbl hbA dL_law_366,
  List.forall_mem_cons.mpr ⟨s_aload_n X dL_law_367 rfl,
  List.forall_mem_cons.mpr ⟨s_iload_n X dL_law_368 rfl,
  List.forall_mem_cons.mpr ⟨s_iconst X dL_law_369 (by decide),
  List.forall_mem_cons.mpr ⟨s_iadd X dL_law_370,
  List.forall_mem_cons.mpr ⟨s_scrLd X hX hbl hbA dL_law_371,
  List.forall_mem_cons.mpr ⟨s_callV X (hF_X5_goesOn hF) wco_X5_goesOn ml_RL_34 cl_5 wim_X5_goesOn wse_X5_goesOn win_FountainTalk ⟨by decide +kernel, by decide +kernel, by decide +kernel, by decide +kernel⟩ (by decide) dL_law_372,
  List.forall_mem_cons.mpr ⟨s_aload_n X dL_law_375 rfl,
  List.forall_mem_cons.mpr ⟨s_aload_n X dL_law_376 rfl,
  List.forall_mem_cons.mpr ⟨s_iload_n X dL_law_377 rfl,
  List.forall_mem_cons.mpr ⟨s_iconst X dL_law_378 (by decide),
  List.forall_mem_cons.mpr ⟨s_iadd X dL_law_379,
  List.forall_mem_cons.mpr ⟨s_scrLd X hX hbl hbA dL_law_380,
  List.forall_mem_cons.mpr ⟨s_aload_n X dL_law_381 rfl,
  List.forall_mem_cons.mpr ⟨s_iload_n X dL_law_382 rfl,
  List.forall_mem_cons.mpr ⟨s_iconst X dL_law_383 (by decide),
  List.forall_mem_cons.mpr ⟨s_iadd X dL_law_384,
  List.forall_mem_cons.mpr ⟨s_scrLd X hX hbl hbA dL_law_385,
  List.forall_mem_cons.mpr ⟨s_callV X (hF_X6_goesOn hF) wco_X6_goesOn ml_RL_37 cl_6 wim_X6_goesOn wse_X6_goesOn win_FountainTalkModel ⟨by decide +kernel, by decide +kernel, by decide +kernel, by decide +kernel⟩ (by decide) dL_law_386,
  List.forall_mem_cons.mpr ⟨s_icmp_eq X dL_law_389 (by decide),
  List.forall_mem_cons.mpr ⟨s_iconst X dL_law_392 (by decide),
  List.forall_mem_cons.mpr ⟨s_zreturn rfl dL_law_393,
  fun _ h => absurd h List.not_mem_nil⟩⟩⟩⟩⟩⟩⟩⟩⟩⟩⟩⟩⟩⟩⟩⟩⟩⟩⟩⟩⟩⟩⟩⟩⟩⟩⟩
set_option maxRecDepth 100000 in
theorem sdkL7 (hF : HF l D ca ad d F) (X : mX p s m args meth c R cL_law 4 RL (some .boolean) A D ca ad nc ns d) (hX : va_X (ad 1002) L xs s s.heap) (hbl : ad 1002 < s.heap.size) (hbA : ¬ A (ad 1002)) : ∀ q ∈ kL7 F L xs, mSnd (mAt p l e R s m args below meth c Q A D ca ad nc ns 4) (mJ p l e R s m args below meth c Q A D ca ad nc ns cL_law (some .boolean)) q.1 q.2 :=
  List.forall_mem_cons.mpr ⟨s_keep (s_aload_n X dL_law_394 rfl),
  List.forall_mem_cons.mpr ⟨s_aload_n X dL_law_395 rfl,
  List.forall_mem_cons.mpr ⟨s_iload_n X dL_law_396 rfl,
  List.forall_mem_cons.mpr ⟨s_iconst X dL_law_397 (by decide),
  List.forall_mem_cons.mpr ⟨s_iadd X dL_law_398,
  List.forall_mem_cons.mpr ⟨s_scrLd X hX hbl hbA dL_law_399,
  List.forall_mem_cons.mpr ⟨s_aload_n X dL_law_400 rfl,
  List.forall_mem_cons.mpr ⟨s_iload_n X dL_law_401 rfl,
  List.forall_mem_cons.mpr ⟨s_iconst X dL_law_402 (by decide),
  List.forall_mem_cons.mpr ⟨s_iadd X dL_law_403,
  List.forall_mem_cons.mpr ⟨s_scrLd X hX hbl hbA dL_law_404,
  List.forall_mem_cons.mpr ⟨s_aload_n X dL_law_405 rfl,
  List.forall_mem_cons.mpr ⟨s_iload_n X dL_law_406 rfl,
  List.forall_mem_cons.mpr ⟨s_iconst X dL_law_407 (by decide),
  List.forall_mem_cons.mpr ⟨s_iadd X dL_law_408,
  List.forall_mem_cons.mpr ⟨s_scrLd X hX hbl hbA dL_law_409,
  List.forall_mem_cons.mpr ⟨s_callV X (hF_X5_pipe hF) wco_X5_pipe ml_RL_38 cl_5 wim_X5_pipe wse_X5_pipe win_FountainTalk ⟨by decide +kernel, by decide +kernel, by decide +kernel, by decide +kernel⟩ (by decide) dL_law_410,
  List.forall_mem_cons.mpr ⟨s_aload_n X dL_law_413 rfl,
  List.forall_mem_cons.mpr ⟨s_aload_n X dL_law_414 rfl,
  List.forall_mem_cons.mpr ⟨s_iload_n X dL_law_415 rfl,
  List.forall_mem_cons.mpr ⟨s_iconst X dL_law_416 (by decide),
  List.forall_mem_cons.mpr ⟨s_iadd X dL_law_417,
  List.forall_mem_cons.mpr ⟨s_scrLd X hX hbl hbA dL_law_418,
  List.forall_mem_cons.mpr ⟨s_aload_n X dL_law_419 rfl,
  List.forall_mem_cons.mpr ⟨s_iload_n X dL_law_420 rfl,
  List.forall_mem_cons.mpr ⟨s_iconst X dL_law_421 (by decide),
  List.forall_mem_cons.mpr ⟨s_iadd X dL_law_422,
  List.forall_mem_cons.mpr ⟨s_scrLd X hX hbl hbA dL_law_423,
  List.forall_mem_cons.mpr ⟨s_aload_n X dL_law_424 rfl,
  List.forall_mem_cons.mpr ⟨s_iload_n X dL_law_425 rfl,
  List.forall_mem_cons.mpr ⟨s_iconst X dL_law_426 (by decide),
  List.forall_mem_cons.mpr ⟨s_iadd X dL_law_427,
  List.forall_mem_cons.mpr ⟨s_scrLd X hX hbl hbA dL_law_428,
  List.forall_mem_cons.mpr ⟨s_callV X (hF_X6_pipe hF) wco_X6_pipe ml_RL_42 cl_6 wim_X6_pipe wse_X6_pipe win_FountainTalkModel ⟨by decide +kernel, by decide +kernel, by decide +kernel, by decide +kernel⟩ (by decide) dL_law_429,
  List.forall_mem_cons.mpr ⟨s_icmp_eq X dL_law_432 (by decide),
  List.forall_mem_cons.mpr ⟨s_iconst X dL_law_435 (by decide),
  List.forall_mem_cons.mpr ⟨s_zreturn rfl dL_law_436,
  fun _ h => absurd h List.not_mem_nil⟩⟩⟩⟩⟩⟩⟩⟩⟩⟩⟩⟩⟩⟩⟩⟩⟩⟩⟩⟩⟩⟩⟩⟩⟩⟩⟩⟩⟩⟩⟩⟩⟩⟩⟩⟩⟩
set_option maxRecDepth 100000 in
theorem sdkL8 (hF : HF l D ca ad d F) (X : mX p s m args meth c R cL_law 4 RL (some .boolean) A D ca ad nc ns d) (hX : va_X (ad 1002) L xs s s.heap) (hbl : ad 1002 < s.heap.size) (hbA : ¬ A (ad 1002)) : ∀ q ∈ kL8 F L xs, mSnd (mAt p l e R s m args below meth c Q A D ca ad nc ns 4) (mJ p l e R s m args below meth c Q A D ca ad nc ns cL_law (some .boolean)) q.1 q.2 :=
  List.forall_mem_cons.mpr ⟨s_keep (s_aload_n X dL_law_437 rfl),
  List.forall_mem_cons.mpr ⟨s_aload_n X dL_law_438 rfl,
  List.forall_mem_cons.mpr ⟨s_iload_n X dL_law_439 rfl,
  List.forall_mem_cons.mpr ⟨s_iconst X dL_law_440 (by decide),
  List.forall_mem_cons.mpr ⟨s_iadd X dL_law_441,
  List.forall_mem_cons.mpr ⟨s_scrLd X hX hbl hbA dL_law_442,
  List.forall_mem_cons.mpr ⟨s_aload_n X dL_law_443 rfl,
  List.forall_mem_cons.mpr ⟨s_iload_n X dL_law_444 rfl,
  List.forall_mem_cons.mpr ⟨s_iconst X dL_law_445 (by decide),
  List.forall_mem_cons.mpr ⟨s_iadd X dL_law_446,
  List.forall_mem_cons.mpr ⟨s_scrLd X hX hbl hbA dL_law_447,
  List.forall_mem_cons.mpr ⟨s_callV X (hF_X5_pipeIs hF) wco_X5_pipeIs ml_RL_43 cl_5 wim_X5_pipeIs wse_X5_pipeIs win_FountainTalk ⟨by decide +kernel, by decide +kernel, by decide +kernel, by decide +kernel⟩ (by decide) dL_law_448,
  List.forall_mem_cons.mpr ⟨s_aload_n X dL_law_451 rfl,
  List.forall_mem_cons.mpr ⟨s_aload_n X dL_law_452 rfl,
  List.forall_mem_cons.mpr ⟨s_iload_n X dL_law_453 rfl,
  List.forall_mem_cons.mpr ⟨s_iconst X dL_law_454 (by decide),
  List.forall_mem_cons.mpr ⟨s_iadd X dL_law_455,
  List.forall_mem_cons.mpr ⟨s_scrLd X hX hbl hbA dL_law_456,
  List.forall_mem_cons.mpr ⟨s_aload_n X dL_law_457 rfl,
  List.forall_mem_cons.mpr ⟨s_iload_n X dL_law_458 rfl,
  List.forall_mem_cons.mpr ⟨s_iconst X dL_law_459 (by decide),
  List.forall_mem_cons.mpr ⟨s_iadd X dL_law_460,
  List.forall_mem_cons.mpr ⟨s_scrLd X hX hbl hbA dL_law_461,
  List.forall_mem_cons.mpr ⟨s_callV X (hF_X6_pipeIs hF) wco_X6_pipeIs ml_RL_46 cl_6 wim_X6_pipeIs wse_X6_pipeIs win_FountainTalkModel ⟨by decide +kernel, by decide +kernel, by decide +kernel, by decide +kernel⟩ (by decide) dL_law_462,
  List.forall_mem_cons.mpr ⟨s_icmp_eq X dL_law_465 (by decide),
  List.forall_mem_cons.mpr ⟨s_iconst X dL_law_468 (by decide),
  List.forall_mem_cons.mpr ⟨s_zreturn rfl dL_law_469,
  fun _ h => absurd h List.not_mem_nil⟩⟩⟩⟩⟩⟩⟩⟩⟩⟩⟩⟩⟩⟩⟩⟩⟩⟩⟩⟩⟩⟩⟩⟩⟩⟩⟩
set_option maxRecDepth 100000 in
theorem sdkL9 (hF : HF l D ca ad d F) (X : mX p s m args meth c R cL_law 4 RL (some .boolean) A D ca ad nc ns d) (hX : va_X (ad 1002) L xs s s.heap) (hbl : ad 1002 < s.heap.size) (hbA : ¬ A (ad 1002)) : ∀ q ∈ kL9 F L xs, mSnd (mAt p l e R s m args below meth c Q A D ca ad nc ns 4) (mJ p l e R s m args below meth c Q A D ca ad nc ns cL_law (some .boolean)) q.1 q.2 :=
  List.forall_mem_cons.mpr ⟨s_keep (s_aload_n X dL_law_470 rfl),
  List.forall_mem_cons.mpr ⟨s_aload_n X dL_law_471 rfl,
  List.forall_mem_cons.mpr ⟨s_iload_n X dL_law_472 rfl,
  List.forall_mem_cons.mpr ⟨s_iconst X dL_law_473 (by decide),
  List.forall_mem_cons.mpr ⟨s_iadd X dL_law_474,
  List.forall_mem_cons.mpr ⟨s_scrLd X hX hbl hbA dL_law_475,
  List.forall_mem_cons.mpr ⟨s_aload_n X dL_law_476 rfl,
  List.forall_mem_cons.mpr ⟨s_iload_n X dL_law_477 rfl,
  List.forall_mem_cons.mpr ⟨s_iconst X dL_law_478 (by decide),
  List.forall_mem_cons.mpr ⟨s_iadd X dL_law_479,
  List.forall_mem_cons.mpr ⟨s_scrLd X hX hbl hbA dL_law_480,
  List.forall_mem_cons.mpr ⟨s_callV X (hF_X5_turn hF) wco_X5_turn ml_RL_47 cl_5 wim_X5_turn wse_X5_turn win_FountainTalk ⟨by decide +kernel, by decide +kernel, by decide +kernel, by decide +kernel⟩ (by decide) dL_law_481,
  List.forall_mem_cons.mpr ⟨s_aload_n X dL_law_484 rfl,
  List.forall_mem_cons.mpr ⟨s_aload_n X dL_law_485 rfl,
  List.forall_mem_cons.mpr ⟨s_iload_n X dL_law_486 rfl,
  List.forall_mem_cons.mpr ⟨s_iconst X dL_law_487 (by decide),
  List.forall_mem_cons.mpr ⟨s_iadd X dL_law_488,
  List.forall_mem_cons.mpr ⟨s_scrLd X hX hbl hbA dL_law_489,
  List.forall_mem_cons.mpr ⟨s_aload_n X dL_law_490 rfl,
  List.forall_mem_cons.mpr ⟨s_iload_n X dL_law_491 rfl,
  List.forall_mem_cons.mpr ⟨s_iconst X dL_law_492 (by decide),
  List.forall_mem_cons.mpr ⟨s_iadd X dL_law_493,
  List.forall_mem_cons.mpr ⟨s_scrLd X hX hbl hbA dL_law_494,
  List.forall_mem_cons.mpr ⟨s_callV X (hF_X6_turn hF) wco_X6_turn ml_RL_50 cl_6 wim_X6_turn wse_X6_turn win_FountainTalkModel ⟨by decide +kernel, by decide +kernel, by decide +kernel, by decide +kernel⟩ (by decide) dL_law_495,
  List.forall_mem_cons.mpr ⟨s_icmp_eq X dL_law_498 (by decide),
  List.forall_mem_cons.mpr ⟨s_iconst X dL_law_501 (by decide),
  List.forall_mem_cons.mpr ⟨s_zreturn rfl dL_law_502,
  fun _ h => absurd h List.not_mem_nil⟩⟩⟩⟩⟩⟩⟩⟩⟩⟩⟩⟩⟩⟩⟩⟩⟩⟩⟩⟩⟩⟩⟩⟩⟩⟩⟩
set_option maxRecDepth 100000 in
theorem sdkL10 (hF : HF l D ca ad d F) (X : mX p s m args meth c R cL_law 4 RL (some .boolean) A D ca ad nc ns d) (hX : va_X (ad 1002) L xs s s.heap) (hbl : ad 1002 < s.heap.size) (hbA : ¬ A (ad 1002)) : ∀ q ∈ kL10 F L xs, mSnd (mAt p l e R s m args below meth c Q A D ca ad nc ns 4) (mJ p l e R s m args below meth c Q A D ca ad nc ns cL_law (some .boolean)) q.1 q.2 :=
  List.forall_mem_cons.mpr ⟨s_keep (s_aload_n X dL_law_503 rfl),
  List.forall_mem_cons.mpr ⟨s_aload_n X dL_law_504 rfl,
  List.forall_mem_cons.mpr ⟨s_iload_n X dL_law_505 rfl,
  List.forall_mem_cons.mpr ⟨s_iconst X dL_law_506 (by decide),
  List.forall_mem_cons.mpr ⟨s_iadd X dL_law_507,
  List.forall_mem_cons.mpr ⟨s_scrLd X hX hbl hbA dL_law_508,
  List.forall_mem_cons.mpr ⟨s_callV X (hF_X5_freeze hF) wco_X5_freeze ml_RL_51 cl_5 wim_X5_freeze wse_X5_freeze win_FountainTalk ⟨by decide +kernel, by decide +kernel, by decide +kernel, by decide +kernel⟩ (by decide) dL_law_509,
  List.forall_mem_cons.mpr ⟨s_aload_n X dL_law_512 rfl,
  List.forall_mem_cons.mpr ⟨s_aload_n X dL_law_513 rfl,
  List.forall_mem_cons.mpr ⟨s_iload_n X dL_law_514 rfl,
  List.forall_mem_cons.mpr ⟨s_iconst X dL_law_515 (by decide),
  List.forall_mem_cons.mpr ⟨s_iadd X dL_law_516,
  List.forall_mem_cons.mpr ⟨s_scrLd X hX hbl hbA dL_law_517,
  List.forall_mem_cons.mpr ⟨s_callV X (hF_X6_freeze hF) wco_X6_freeze ml_RL_55 cl_6 wim_X6_freeze wse_X6_freeze win_FountainTalkModel ⟨by decide +kernel, by decide +kernel, by decide +kernel, by decide +kernel⟩ (by decide) dL_law_518,
  List.forall_mem_cons.mpr ⟨s_icmp_eq X dL_law_521 (by decide),
  List.forall_mem_cons.mpr ⟨s_iconst X dL_law_524 (by decide),
  List.forall_mem_cons.mpr ⟨s_zreturn rfl dL_law_525,
  fun _ h => absurd h List.not_mem_nil⟩⟩⟩⟩⟩⟩⟩⟩⟩⟩⟩⟩⟩⟩⟩⟩⟩
set_option maxRecDepth 100000 in
theorem sdkL11 (hF : HF l D ca ad d F) (X : mX p s m args meth c R cL_law 4 RL (some .boolean) A D ca ad nc ns d) (hX : va_X (ad 1002) L xs s s.heap) (hbl : ad 1002 < s.heap.size) (hbA : ¬ A (ad 1002)) : ∀ q ∈ kL11 F L xs, mSnd (mAt p l e R s m args below meth c Q A D ca ad nc ns 4) (mJ p l e R s m args below meth c Q A D ca ad nc ns cL_law (some .boolean)) q.1 q.2 :=
  List.forall_mem_cons.mpr ⟨s_keep (s_aload_n X dL_law_526 rfl),
  List.forall_mem_cons.mpr ⟨s_aload_n X dL_law_527 rfl,
  List.forall_mem_cons.mpr ⟨s_iload_n X dL_law_528 rfl,
  List.forall_mem_cons.mpr ⟨s_iconst X dL_law_529 (by decide),
  List.forall_mem_cons.mpr ⟨s_iadd X dL_law_530,
  List.forall_mem_cons.mpr ⟨s_scrLd X hX hbl hbA dL_law_531,
  List.forall_mem_cons.mpr ⟨s_i2l X dL_law_532,
  List.forall_mem_cons.mpr ⟨s_bipush X dL_law_533 (by decide),
  List.forall_mem_cons.mpr ⟨s_lshl X dL_law_535,
  List.forall_mem_cons.mpr ⟨s_aload_n X dL_law_536 rfl,
  List.forall_mem_cons.mpr ⟨s_iload_n X dL_law_537 rfl,
  List.forall_mem_cons.mpr ⟨s_iconst X dL_law_538 (by decide),
  List.forall_mem_cons.mpr ⟨s_iadd X dL_law_539,
  List.forall_mem_cons.mpr ⟨s_scrLd X hX hbl hbA dL_law_540,
  List.forall_mem_cons.mpr ⟨s_i2l X dL_law_541,
  List.forall_mem_cons.mpr ⟨s_ldc2_w X ct_RL_56 dL_law_542,
  List.forall_mem_cons.mpr ⟨s_land X dL_law_545,
  List.forall_mem_cons.mpr ⟨s_lor X dL_law_546,
  List.forall_mem_cons.mpr ⟨s_aload_n X dL_law_547 rfl,
  List.forall_mem_cons.mpr ⟨s_iload_n X dL_law_548 rfl,
  List.forall_mem_cons.mpr ⟨s_iconst X dL_law_549 (by decide),
  List.forall_mem_cons.mpr ⟨s_iadd X dL_law_550,
  List.forall_mem_cons.mpr ⟨s_scrLd X hX hbl hbA dL_law_551,
  List.forall_mem_cons.mpr ⟨s_callV X (hF_X5_feed hF) wco_X5_feed ml_RL_58 cl_5 wim_X5_feed wse_X5_feed win_FountainTalk ⟨by decide +kernel, by decide +kernel, by decide +kernel, by decide +kernel⟩ (by decide) dL_law_552,
  List.forall_mem_cons.mpr ⟨s_aload_n X dL_law_555 rfl,
  List.forall_mem_cons.mpr ⟨s_aload_n X dL_law_556 rfl,
  List.forall_mem_cons.mpr ⟨s_iload_n X dL_law_557 rfl,
  List.forall_mem_cons.mpr ⟨s_iconst X dL_law_558 (by decide),
  List.forall_mem_cons.mpr ⟨s_iadd X dL_law_559,
  List.forall_mem_cons.mpr ⟨s_scrLd X hX hbl hbA dL_law_560,
  List.forall_mem_cons.mpr ⟨s_i2l X dL_law_561,
  List.forall_mem_cons.mpr ⟨s_bipush X dL_law_562 (by decide),
  List.forall_mem_cons.mpr ⟨s_lshl X dL_law_564,
  List.forall_mem_cons.mpr ⟨s_aload_n X dL_law_565 rfl,
  List.forall_mem_cons.mpr ⟨s_iload_n X dL_law_566 rfl,
  List.forall_mem_cons.mpr ⟨s_iconst X dL_law_567 (by decide),
  List.forall_mem_cons.mpr ⟨s_iadd X dL_law_568,
  List.forall_mem_cons.mpr ⟨s_scrLd X hX hbl hbA dL_law_569,
  List.forall_mem_cons.mpr ⟨s_i2l X dL_law_570,
  List.forall_mem_cons.mpr ⟨s_ldc2_w X ct_RL_56 dL_law_571,
  List.forall_mem_cons.mpr ⟨s_land X dL_law_574,
  List.forall_mem_cons.mpr ⟨s_lor X dL_law_575,
  List.forall_mem_cons.mpr ⟨s_aload_n X dL_law_576 rfl,
  List.forall_mem_cons.mpr ⟨s_iload_n X dL_law_577 rfl,
  List.forall_mem_cons.mpr ⟨s_iconst X dL_law_578 (by decide),
  List.forall_mem_cons.mpr ⟨s_iadd X dL_law_579,
  List.forall_mem_cons.mpr ⟨s_scrLd X hX hbl hbA dL_law_580,
  List.forall_mem_cons.mpr ⟨s_callV X (hF_X6_feed hF) wco_X6_feed ml_RL_62 cl_6 wim_X6_feed wse_X6_feed win_FountainTalkModel ⟨by decide +kernel, by decide +kernel, by decide +kernel, by decide +kernel⟩ (by decide) dL_law_581,
  List.forall_mem_cons.mpr ⟨s_icmp_eq X dL_law_584 (by decide),
  List.forall_mem_cons.mpr ⟨s_iconst X dL_law_587 (by decide),
  List.forall_mem_cons.mpr ⟨s_zreturn rfl dL_law_588,
  fun _ h => absurd h List.not_mem_nil⟩⟩⟩⟩⟩⟩⟩⟩⟩⟩⟩⟩⟩⟩⟩⟩⟩⟩⟩⟩⟩⟩⟩⟩⟩⟩⟩⟩⟩⟩⟩⟩⟩⟩⟩⟩⟩⟩⟩⟩⟩⟩⟩⟩⟩⟩⟩⟩⟩⟩⟩
set_option maxRecDepth 100000 in
theorem sdkL12 (hF : HF l D ca ad d F) (X : mX p s m args meth c R cL_law 4 RL (some .boolean) A D ca ad nc ns d) (hX : va_X (ad 1002) L xs s s.heap) (hbl : ad 1002 < s.heap.size) (hbA : ¬ A (ad 1002)) : ∀ q ∈ kL12 F L xs, mSnd (mAt p l e R s m args below meth c Q A D ca ad nc ns 4) (mJ p l e R s m args below meth c Q A D ca ad nc ns cL_law (some .boolean)) q.1 q.2 :=
  List.forall_mem_cons.mpr ⟨s_keep (s_aload_n X dL_law_589 rfl),
  List.forall_mem_cons.mpr ⟨s_aload_n X dL_law_590 rfl,
  List.forall_mem_cons.mpr ⟨s_iload_n X dL_law_591 rfl,
  List.forall_mem_cons.mpr ⟨s_iconst X dL_law_592 (by decide),
  List.forall_mem_cons.mpr ⟨s_iadd X dL_law_593,
  List.forall_mem_cons.mpr ⟨s_scrLd X hX hbl hbA dL_law_594,
  List.forall_mem_cons.mpr ⟨s_callV X (hF_X5_text hF) wco_X5_text ml_RL_63 cl_5 wim_X5_text wse_X5_text win_FountainTalk ⟨by decide +kernel, by decide +kernel, by decide +kernel, by decide +kernel⟩ (by decide) dL_law_595,
  List.forall_mem_cons.mpr ⟨s_aload_n X dL_law_598 rfl,
  List.forall_mem_cons.mpr ⟨s_aload_n X dL_law_599 rfl,
  List.forall_mem_cons.mpr ⟨s_iload_n X dL_law_600 rfl,
  List.forall_mem_cons.mpr ⟨s_iconst X dL_law_601 (by decide),
  List.forall_mem_cons.mpr ⟨s_iadd X dL_law_602,
  List.forall_mem_cons.mpr ⟨s_scrLd X hX hbl hbA dL_law_603,
  List.forall_mem_cons.mpr ⟨s_callV X (hF_X6_text hF) wco_X6_text ml_RL_66 cl_6 wim_X6_text wse_X6_text win_FountainTalkModel ⟨by decide +kernel, by decide +kernel, by decide +kernel, by decide +kernel⟩ (by decide) dL_law_604,
  List.forall_mem_cons.mpr ⟨s_icmp_eq X dL_law_607 (by decide),
  List.forall_mem_cons.mpr ⟨s_iconst X dL_law_610 (by decide),
  List.forall_mem_cons.mpr ⟨s_zreturn rfl dL_law_611,
  fun _ h => absurd h List.not_mem_nil⟩⟩⟩⟩⟩⟩⟩⟩⟩⟩⟩⟩⟩⟩⟩⟩⟩
set_option maxRecDepth 100000 in
theorem sdkL13 (hF : HF l D ca ad d F) (X : mX p s m args meth c R cL_law 4 RL (some .boolean) A D ca ad nc ns d) (hX : va_X (ad 1002) L xs s s.heap) (hbl : ad 1002 < s.heap.size) (hbA : ¬ A (ad 1002)) : ∀ q ∈ kL13 F L xs, mSnd (mAt p l e R s m args below meth c Q A D ca ad nc ns 4) (mJ p l e R s m args below meth c Q A D ca ad nc ns cL_law (some .boolean)) q.1 q.2 :=
  List.forall_mem_cons.mpr ⟨s_keep (s_aload_n X dL_law_612 rfl),
  List.forall_mem_cons.mpr ⟨s_aload_n X dL_law_613 rfl,
  List.forall_mem_cons.mpr ⟨s_iload_n X dL_law_614 rfl,
  List.forall_mem_cons.mpr ⟨s_iconst X dL_law_615 (by decide),
  List.forall_mem_cons.mpr ⟨s_iadd X dL_law_616,
  List.forall_mem_cons.mpr ⟨s_scrLd X hX hbl hbA dL_law_617,
  List.forall_mem_cons.mpr ⟨s_callV X (hF_X5_untell hF) wco_X5_untell ml_RL_67 cl_5 wim_X5_untell wse_X5_untell win_FountainTalk ⟨by decide +kernel, by decide +kernel, by decide +kernel, by decide +kernel⟩ (by decide) dL_law_618,
  List.forall_mem_cons.mpr ⟨s_aload_n X dL_law_621 rfl,
  List.forall_mem_cons.mpr ⟨s_aload_n X dL_law_622 rfl,
  List.forall_mem_cons.mpr ⟨s_iload_n X dL_law_623 rfl,
  List.forall_mem_cons.mpr ⟨s_iconst X dL_law_624 (by decide),
  List.forall_mem_cons.mpr ⟨s_iadd X dL_law_625,
  List.forall_mem_cons.mpr ⟨s_scrLd X hX hbl hbA dL_law_626,
  List.forall_mem_cons.mpr ⟨s_callV X (hF_X6_untell hF) wco_X6_untell ml_RL_70 cl_6 wim_X6_untell wse_X6_untell win_FountainTalkModel ⟨by decide +kernel, by decide +kernel, by decide +kernel, by decide +kernel⟩ (by decide) dL_law_627,
  List.forall_mem_cons.mpr ⟨s_icmp_eq X dL_law_630 (by decide),
  List.forall_mem_cons.mpr ⟨s_iconst X dL_law_633 (by decide),
  List.forall_mem_cons.mpr ⟨s_zreturn rfl dL_law_634,
  fun _ h => absurd h List.not_mem_nil⟩⟩⟩⟩⟩⟩⟩⟩⟩⟩⟩⟩⟩⟩⟩⟩⟩
set_option maxRecDepth 100000 in
theorem sdkL14 (hF : HF l D ca ad d F) (X : mX p s m args meth c R cL_law 4 RL (some .boolean) A D ca ad nc ns d) (hX : va_X (ad 1002) L xs s s.heap) (hbl : ad 1002 < s.heap.size) (hbA : ¬ A (ad 1002)) : ∀ q ∈ kL14 F L xs, mSnd (mAt p l e R s m args below meth c Q A D ca ad nc ns 4) (mJ p l e R s m args below meth c Q A D ca ad nc ns cL_law (some .boolean)) q.1 q.2 :=
  List.forall_mem_cons.mpr ⟨s_keep (s_aload_n X dL_law_635 rfl),
  List.forall_mem_cons.mpr ⟨s_aload_n X dL_law_636 rfl,
  List.forall_mem_cons.mpr ⟨s_iload_n X dL_law_637 rfl,
  List.forall_mem_cons.mpr ⟨s_iconst X dL_law_638 (by decide),
  List.forall_mem_cons.mpr ⟨s_iadd X dL_law_639,
  List.forall_mem_cons.mpr ⟨s_scrLd X hX hbl hbA dL_law_640,
  List.forall_mem_cons.mpr ⟨s_aload_n X dL_law_641 rfl,
  List.forall_mem_cons.mpr ⟨s_iload_n X dL_law_642 rfl,
  List.forall_mem_cons.mpr ⟨s_iconst X dL_law_643 (by decide),
  List.forall_mem_cons.mpr ⟨s_iadd X dL_law_644,
  List.forall_mem_cons.mpr ⟨s_scrLd X hX hbl hbA dL_law_645,
  List.forall_mem_cons.mpr ⟨s_aload_n X dL_law_646 rfl,
  List.forall_mem_cons.mpr ⟨s_iload_n X dL_law_647 rfl,
  List.forall_mem_cons.mpr ⟨s_iconst X dL_law_648 (by decide),
  List.forall_mem_cons.mpr ⟨s_iadd X dL_law_649,
  List.forall_mem_cons.mpr ⟨s_scrLd X hX hbl hbA dL_law_650,
  List.forall_mem_cons.mpr ⟨s_aload_n X dL_law_651 rfl,
  List.forall_mem_cons.mpr ⟨s_iload_n X dL_law_652 rfl,
  List.forall_mem_cons.mpr ⟨s_iconst X dL_law_653 (by decide),
  List.forall_mem_cons.mpr ⟨s_iadd X dL_law_654,
  List.forall_mem_cons.mpr ⟨s_scrLd X hX hbl hbA dL_law_655,
  List.forall_mem_cons.mpr ⟨s_callV X (hF_X5_law hF) wco_X5_law ml_RL_71 cl_5 wim_X5_law wse_X5_law win_FountainTalk ⟨by decide +kernel, by decide +kernel, by decide +kernel, by decide +kernel⟩ (by decide) dL_law_656,
  List.forall_mem_cons.mpr ⟨s_aload_n X dL_law_659 rfl,
  List.forall_mem_cons.mpr ⟨s_aload_n X dL_law_660 rfl,
  List.forall_mem_cons.mpr ⟨s_iload_n X dL_law_661 rfl,
  List.forall_mem_cons.mpr ⟨s_iconst X dL_law_662 (by decide),
  List.forall_mem_cons.mpr ⟨s_iadd X dL_law_663,
  List.forall_mem_cons.mpr ⟨s_scrLd X hX hbl hbA dL_law_664,
  List.forall_mem_cons.mpr ⟨s_aload_n X dL_law_665 rfl,
  List.forall_mem_cons.mpr ⟨s_iload_n X dL_law_666 rfl,
  List.forall_mem_cons.mpr ⟨s_iconst X dL_law_667 (by decide),
  List.forall_mem_cons.mpr ⟨s_iadd X dL_law_668,
  List.forall_mem_cons.mpr ⟨s_scrLd X hX hbl hbA dL_law_669,
  List.forall_mem_cons.mpr ⟨s_aload_n X dL_law_670 rfl,
  List.forall_mem_cons.mpr ⟨s_iload_n X dL_law_671 rfl,
  List.forall_mem_cons.mpr ⟨s_iconst X dL_law_672 (by decide),
  List.forall_mem_cons.mpr ⟨s_iadd X dL_law_673,
  List.forall_mem_cons.mpr ⟨s_scrLd X hX hbl hbA dL_law_674,
  List.forall_mem_cons.mpr ⟨s_aload_n X dL_law_675 rfl,
  List.forall_mem_cons.mpr ⟨s_iload_n X dL_law_676 rfl,
  List.forall_mem_cons.mpr ⟨s_iconst X dL_law_677 (by decide),
  List.forall_mem_cons.mpr ⟨s_iadd X dL_law_678,
  List.forall_mem_cons.mpr ⟨s_scrLd X hX hbl hbA dL_law_679,
  List.forall_mem_cons.mpr ⟨s_callV X (hF_X6_law hF) wco_X6_law ml_RL_75 cl_6 wim_X6_law wse_X6_law win_FountainTalkModel ⟨by decide +kernel, by decide +kernel, by decide +kernel, by decide +kernel⟩ (by decide) dL_law_680,
  List.forall_mem_cons.mpr ⟨s_icmp_eq X dL_law_683 (by decide),
  List.forall_mem_cons.mpr ⟨s_iconst X dL_law_686 (by decide),
  List.forall_mem_cons.mpr ⟨s_zreturn rfl dL_law_687,
  fun _ h => absurd h List.not_mem_nil⟩⟩⟩⟩⟩⟩⟩⟩⟩⟩⟩⟩⟩⟩⟩⟩⟩⟩⟩⟩⟩⟩⟩⟩⟩⟩⟩⟩⟩⟩⟩⟩⟩⟩⟩⟩⟩⟩⟩⟩⟩⟩⟩⟩⟩⟩⟩
set_option maxRecDepth 100000 in
theorem sdkL15 (hF : HF l D ca ad d F) (X : mX p s m args meth c R cL_law 4 RL (some .boolean) A D ca ad nc ns d) (hX : va_X (ad 1002) L xs s s.heap) (hbl : ad 1002 < s.heap.size) (hbA : ¬ A (ad 1002)) : ∀ q ∈ kL15 F L xs, mSnd (mAt p l e R s m args below meth c Q A D ca ad nc ns 4) (mJ p l e R s m args below meth c Q A D ca ad nc ns cL_law (some .boolean)) q.1 q.2 :=
  List.forall_mem_cons.mpr ⟨s_keep (s_aload_n X dL_law_688 rfl),
  List.forall_mem_cons.mpr ⟨s_aload_n X dL_law_689 rfl,
  List.forall_mem_cons.mpr ⟨s_iload_n X dL_law_690 rfl,
  List.forall_mem_cons.mpr ⟨s_iconst X dL_law_691 (by decide),
  List.forall_mem_cons.mpr ⟨s_iadd X dL_law_692,
  List.forall_mem_cons.mpr ⟨s_scrLd X hX hbl hbA dL_law_693,
  List.forall_mem_cons.mpr ⟨s_aload_n X dL_law_694 rfl,
  List.forall_mem_cons.mpr ⟨s_iload_n X dL_law_695 rfl,
  List.forall_mem_cons.mpr ⟨s_iconst X dL_law_696 (by decide),
  List.forall_mem_cons.mpr ⟨s_iadd X dL_law_697,
  List.forall_mem_cons.mpr ⟨s_scrLd X hX hbl hbA dL_law_698,
  List.forall_mem_cons.mpr ⟨s_callV X (hF_X5_hears hF) wco_X5_hears ml_RL_76 cl_5 wim_X5_hears wse_X5_hears win_FountainTalk ⟨by decide +kernel, by decide +kernel, by decide +kernel, by decide +kernel⟩ (by decide) dL_law_699,
  List.forall_mem_cons.mpr ⟨s_aload_n X dL_law_702 rfl,
  List.forall_mem_cons.mpr ⟨s_aload_n X dL_law_703 rfl,
  List.forall_mem_cons.mpr ⟨s_iload_n X dL_law_704 rfl,
  List.forall_mem_cons.mpr ⟨s_iconst X dL_law_705 (by decide),
  List.forall_mem_cons.mpr ⟨s_iadd X dL_law_706,
  List.forall_mem_cons.mpr ⟨s_scrLd X hX hbl hbA dL_law_707,
  List.forall_mem_cons.mpr ⟨s_aload_n X dL_law_708 rfl,
  List.forall_mem_cons.mpr ⟨s_iload_n X dL_law_709 rfl,
  List.forall_mem_cons.mpr ⟨s_iconst X dL_law_710 (by decide),
  List.forall_mem_cons.mpr ⟨s_iadd X dL_law_711,
  List.forall_mem_cons.mpr ⟨s_scrLd X hX hbl hbA dL_law_712,
  List.forall_mem_cons.mpr ⟨s_callV X (hF_X6_hears hF) wco_X6_hears ml_RL_79 cl_6 wim_X6_hears wse_X6_hears win_FountainTalkModel ⟨by decide +kernel, by decide +kernel, by decide +kernel, by decide +kernel⟩ (by decide) dL_law_713,
  List.forall_mem_cons.mpr ⟨s_icmp_eq X dL_law_716 (by decide),
  List.forall_mem_cons.mpr ⟨s_iconst X dL_law_719 (by decide),
  List.forall_mem_cons.mpr ⟨s_zreturn rfl dL_law_720,
  fun _ h => absurd h List.not_mem_nil⟩⟩⟩⟩⟩⟩⟩⟩⟩⟩⟩⟩⟩⟩⟩⟩⟩⟩⟩⟩⟩⟩⟩⟩⟩⟩⟩
set_option maxRecDepth 100000 in
theorem sdkL16 (hF : HF l D ca ad d F) (X : mX p s m args meth c R cL_law 4 RL (some .boolean) A D ca ad nc ns d) (hX : va_X (ad 1002) L xs s s.heap) (hbl : ad 1002 < s.heap.size) (hbA : ¬ A (ad 1002)) : ∀ q ∈ kL16 F L xs, mSnd (mAt p l e R s m args below meth c Q A D ca ad nc ns 4) (mJ p l e R s m args below meth c Q A D ca ad nc ns cL_law (some .boolean)) q.1 q.2 :=
  List.forall_mem_cons.mpr ⟨s_keep (s_aload_n X dL_law_721 rfl),
  List.forall_mem_cons.mpr ⟨s_aload_n X dL_law_722 rfl,
  List.forall_mem_cons.mpr ⟨s_iload_n X dL_law_723 rfl,
  List.forall_mem_cons.mpr ⟨s_iconst X dL_law_724 (by decide),
  List.forall_mem_cons.mpr ⟨s_iadd X dL_law_725,
  List.forall_mem_cons.mpr ⟨s_scrLd X hX hbl hbA dL_law_726,
  List.forall_mem_cons.mpr ⟨s_aload_n X dL_law_727 rfl,
  List.forall_mem_cons.mpr ⟨s_iload_n X dL_law_728 rfl,
  List.forall_mem_cons.mpr ⟨s_iconst X dL_law_729 (by decide),
  List.forall_mem_cons.mpr ⟨s_iadd X dL_law_730,
  List.forall_mem_cons.mpr ⟨s_scrLd X hX hbl hbA dL_law_731,
  List.forall_mem_cons.mpr ⟨s_aload_n X dL_law_732 rfl,
  List.forall_mem_cons.mpr ⟨s_iload_n X dL_law_733 rfl,
  List.forall_mem_cons.mpr ⟨s_iconst X dL_law_734 (by decide),
  List.forall_mem_cons.mpr ⟨s_iadd X dL_law_735,
  List.forall_mem_cons.mpr ⟨s_scrLd X hX hbl hbA dL_law_736,
  List.forall_mem_cons.mpr ⟨s_aload_n X dL_law_737 rfl,
  List.forall_mem_cons.mpr ⟨s_iload_n X dL_law_738 rfl,
  List.forall_mem_cons.mpr ⟨s_iconst X dL_law_739 (by decide),
  List.forall_mem_cons.mpr ⟨s_iadd X dL_law_740,
  List.forall_mem_cons.mpr ⟨s_scrLd X hX hbl hbA dL_law_741,
  List.forall_mem_cons.mpr ⟨s_callV X (hF_X5_heard hF) wco_X5_heard ml_RL_80 cl_5 wim_X5_heard wse_X5_heard win_FountainTalk ⟨by decide +kernel, by decide +kernel, by decide +kernel, by decide +kernel⟩ (by decide) dL_law_742,
  List.forall_mem_cons.mpr ⟨s_aload_n X dL_law_745 rfl,
  List.forall_mem_cons.mpr ⟨s_aload_n X dL_law_746 rfl,
  List.forall_mem_cons.mpr ⟨s_iload_n X dL_law_747 rfl,
  List.forall_mem_cons.mpr ⟨s_iconst X dL_law_748 (by decide),
  List.forall_mem_cons.mpr ⟨s_iadd X dL_law_749,
  List.forall_mem_cons.mpr ⟨s_scrLd X hX hbl hbA dL_law_750,
  List.forall_mem_cons.mpr ⟨s_aload_n X dL_law_751 rfl,
  List.forall_mem_cons.mpr ⟨s_iload_n X dL_law_752 rfl,
  List.forall_mem_cons.mpr ⟨s_iconst X dL_law_753 (by decide),
  List.forall_mem_cons.mpr ⟨s_iadd X dL_law_754,
  List.forall_mem_cons.mpr ⟨s_scrLd X hX hbl hbA dL_law_755,
  List.forall_mem_cons.mpr ⟨s_aload_n X dL_law_756 rfl,
  List.forall_mem_cons.mpr ⟨s_iload_n X dL_law_757 rfl,
  List.forall_mem_cons.mpr ⟨s_iconst X dL_law_758 (by decide),
  List.forall_mem_cons.mpr ⟨s_iadd X dL_law_759,
  List.forall_mem_cons.mpr ⟨s_scrLd X hX hbl hbA dL_law_760,
  List.forall_mem_cons.mpr ⟨s_aload_n X dL_law_761 rfl,
  List.forall_mem_cons.mpr ⟨s_iload_n X dL_law_762 rfl,
  List.forall_mem_cons.mpr ⟨s_iconst X dL_law_763 (by decide),
  List.forall_mem_cons.mpr ⟨s_iadd X dL_law_764,
  List.forall_mem_cons.mpr ⟨s_scrLd X hX hbl hbA dL_law_765,
  List.forall_mem_cons.mpr ⟨s_callV X (hF_X6_heard hF) wco_X6_heard ml_RL_83 cl_6 wim_X6_heard wse_X6_heard win_FountainTalkModel ⟨by decide +kernel, by decide +kernel, by decide +kernel, by decide +kernel⟩ (by decide) dL_law_766,
  List.forall_mem_cons.mpr ⟨s_icmp_eq X dL_law_769 (by decide),
  List.forall_mem_cons.mpr ⟨s_iconst X dL_law_772 (by decide),
  List.forall_mem_cons.mpr ⟨s_zreturn rfl dL_law_773,
  fun _ h => absurd h List.not_mem_nil⟩⟩⟩⟩⟩⟩⟩⟩⟩⟩⟩⟩⟩⟩⟩⟩⟩⟩⟩⟩⟩⟩⟩⟩⟩⟩⟩⟩⟩⟩⟩⟩⟩⟩⟩⟩⟩⟩⟩⟩⟩⟩⟩⟩⟩⟩⟩
set_option maxRecDepth 100000 in
theorem sdkL17 (hF : HF l D ca ad d F) (X : mX p s m args meth c R cL_law 4 RL (some .boolean) A D ca ad nc ns d) (hX : va_X (ad 1002) L xs s s.heap) (hbl : ad 1002 < s.heap.size) (hbA : ¬ A (ad 1002)) : ∀ q ∈ kL17 F L xs, mSnd (mAt p l e R s m args below meth c Q A D ca ad nc ns 4) (mJ p l e R s m args below meth c Q A D ca ad nc ns cL_law (some .boolean)) q.1 q.2 :=
  List.forall_mem_cons.mpr ⟨s_keep (s_aload_n X dL_law_774 rfl),
  List.forall_mem_cons.mpr ⟨s_aload_n X dL_law_775 rfl,
  List.forall_mem_cons.mpr ⟨s_iload_n X dL_law_776 rfl,
  List.forall_mem_cons.mpr ⟨s_iconst X dL_law_777 (by decide),
  List.forall_mem_cons.mpr ⟨s_iadd X dL_law_778,
  List.forall_mem_cons.mpr ⟨s_scrLd X hX hbl hbA dL_law_779,
  List.forall_mem_cons.mpr ⟨s_aload_n X dL_law_780 rfl,
  List.forall_mem_cons.mpr ⟨s_iload_n X dL_law_781 rfl,
  List.forall_mem_cons.mpr ⟨s_iconst X dL_law_782 (by decide),
  List.forall_mem_cons.mpr ⟨s_iadd X dL_law_783,
  List.forall_mem_cons.mpr ⟨s_scrLd X hX hbl hbA dL_law_784,
  List.forall_mem_cons.mpr ⟨s_callV X (hF_X5_let hF) wco_X5_let ml_RL_84 cl_5 wim_X5_let wse_X5_let win_FountainTalk ⟨by decide +kernel, by decide +kernel, by decide +kernel, by decide +kernel⟩ (by decide) dL_law_785,
  List.forall_mem_cons.mpr ⟨s_aload_n X dL_law_788 rfl,
  List.forall_mem_cons.mpr ⟨s_aload_n X dL_law_789 rfl,
  List.forall_mem_cons.mpr ⟨s_iload_n X dL_law_790 rfl,
  List.forall_mem_cons.mpr ⟨s_iconst X dL_law_791 (by decide),
  List.forall_mem_cons.mpr ⟨s_iadd X dL_law_792,
  List.forall_mem_cons.mpr ⟨s_scrLd X hX hbl hbA dL_law_793,
  List.forall_mem_cons.mpr ⟨s_aload_n X dL_law_794 rfl,
  List.forall_mem_cons.mpr ⟨s_iload_n X dL_law_795 rfl,
  List.forall_mem_cons.mpr ⟨s_iconst X dL_law_796 (by decide),
  List.forall_mem_cons.mpr ⟨s_iadd X dL_law_797,
  List.forall_mem_cons.mpr ⟨s_scrLd X hX hbl hbA dL_law_798,
  List.forall_mem_cons.mpr ⟨s_callV X (hF_X6_let hF) wco_X6_let ml_RL_87 cl_6 wim_X6_let wse_X6_let win_FountainTalkModel ⟨by decide +kernel, by decide +kernel, by decide +kernel, by decide +kernel⟩ (by decide) dL_law_799,
  List.forall_mem_cons.mpr ⟨s_icmp_eq X dL_law_802 (by decide),
  List.forall_mem_cons.mpr ⟨s_iconst X dL_law_805 (by decide),
  List.forall_mem_cons.mpr ⟨s_zreturn rfl dL_law_806,
  fun _ h => absurd h List.not_mem_nil⟩⟩⟩⟩⟩⟩⟩⟩⟩⟩⟩⟩⟩⟩⟩⟩⟩⟩⟩⟩⟩⟩⟩⟩⟩⟩⟩
set_option maxRecDepth 100000 in
theorem sdkL18 (hF : HF l D ca ad d F) (X : mX p s m args meth c R cL_law 4 RL (some .boolean) A D ca ad nc ns d) (hX : va_X (ad 1002) L xs s s.heap) (hbl : ad 1002 < s.heap.size) (hbA : ¬ A (ad 1002)) : ∀ q ∈ kL18 F L xs, mSnd (mAt p l e R s m args below meth c Q A D ca ad nc ns 4) (mJ p l e R s m args below meth c Q A D ca ad nc ns cL_law (some .boolean)) q.1 q.2 :=
  List.forall_mem_cons.mpr ⟨s_keep (s_aload_n X dL_law_807 rfl),
  List.forall_mem_cons.mpr ⟨s_aload_n X dL_law_808 rfl,
  List.forall_mem_cons.mpr ⟨s_iload_n X dL_law_809 rfl,
  List.forall_mem_cons.mpr ⟨s_iconst X dL_law_810 (by decide),
  List.forall_mem_cons.mpr ⟨s_iadd X dL_law_811,
  List.forall_mem_cons.mpr ⟨s_scrLd X hX hbl hbA dL_law_812,
  List.forall_mem_cons.mpr ⟨s_callV X (hF_X5_days hF) wco_X5_days ml_RL_88 cl_5 wim_X5_days wse_X5_days win_FountainTalk ⟨by decide +kernel, by decide +kernel, by decide +kernel, by decide +kernel⟩ (by decide) dL_law_813,
  List.forall_mem_cons.mpr ⟨s_aload_n X dL_law_816 rfl,
  List.forall_mem_cons.mpr ⟨s_aload_n X dL_law_817 rfl,
  List.forall_mem_cons.mpr ⟨s_iload_n X dL_law_818 rfl,
  List.forall_mem_cons.mpr ⟨s_iconst X dL_law_819 (by decide),
  List.forall_mem_cons.mpr ⟨s_iadd X dL_law_820,
  List.forall_mem_cons.mpr ⟨s_scrLd X hX hbl hbA dL_law_821,
  List.forall_mem_cons.mpr ⟨s_callV X (hF_X6_days hF) wco_X6_days ml_RL_91 cl_6 wim_X6_days wse_X6_days win_FountainTalkModel ⟨by decide +kernel, by decide +kernel, by decide +kernel, by decide +kernel⟩ (by decide) dL_law_822,
  List.forall_mem_cons.mpr ⟨s_icmp_eq X dL_law_825 (by decide),
  List.forall_mem_cons.mpr ⟨s_iconst X dL_law_828 (by decide),
  List.forall_mem_cons.mpr ⟨s_zreturn rfl dL_law_829,
  fun _ h => absurd h List.not_mem_nil⟩⟩⟩⟩⟩⟩⟩⟩⟩⟩⟩⟩⟩⟩⟩⟩⟩
set_option maxRecDepth 100000 in
theorem sdkL19 (hF : HF l D ca ad d F) (X : mX p s m args meth c R cL_law 4 RL (some .boolean) A D ca ad nc ns d) (hX : va_X (ad 1002) L xs s s.heap) (hbl : ad 1002 < s.heap.size) (hbA : ¬ A (ad 1002)) : ∀ q ∈ kL19 F L xs, mSnd (mAt p l e R s m args below meth c Q A D ca ad nc ns 4) (mJ p l e R s m args below meth c Q A D ca ad nc ns cL_law (some .boolean)) q.1 q.2 :=
  List.forall_mem_cons.mpr ⟨s_keep (s_aload_n X dL_law_830 rfl),
  List.forall_mem_cons.mpr ⟨s_aload_n X dL_law_831 rfl,
  List.forall_mem_cons.mpr ⟨s_iload_n X dL_law_832 rfl,
  List.forall_mem_cons.mpr ⟨s_iconst X dL_law_833 (by decide),
  List.forall_mem_cons.mpr ⟨s_iadd X dL_law_834,
  List.forall_mem_cons.mpr ⟨s_scrLd X hX hbl hbA dL_law_835,
  List.forall_mem_cons.mpr ⟨s_callV X (hF_X5_loose hF) wco_X5_loose ml_RL_92 cl_5 wim_X5_loose wse_X5_loose win_FountainTalk ⟨by decide +kernel, by decide +kernel, by decide +kernel, by decide +kernel⟩ (by decide) dL_law_836,
  List.forall_mem_cons.mpr ⟨s_aload_n X dL_law_839 rfl,
  List.forall_mem_cons.mpr ⟨s_aload_n X dL_law_840 rfl,
  List.forall_mem_cons.mpr ⟨s_iload_n X dL_law_841 rfl,
  List.forall_mem_cons.mpr ⟨s_iconst X dL_law_842 (by decide),
  List.forall_mem_cons.mpr ⟨s_iadd X dL_law_843,
  List.forall_mem_cons.mpr ⟨s_scrLd X hX hbl hbA dL_law_844,
  List.forall_mem_cons.mpr ⟨s_callV X (hF_X6_loose hF) wco_X6_loose ml_RL_95 cl_6 wim_X6_loose wse_X6_loose win_FountainTalkModel ⟨by decide +kernel, by decide +kernel, by decide +kernel, by decide +kernel⟩ (by decide) dL_law_845,
  List.forall_mem_cons.mpr ⟨s_icmp_eq X dL_law_848 (by decide),
  List.forall_mem_cons.mpr ⟨s_iconst X dL_law_851 (by decide),
  List.forall_mem_cons.mpr ⟨s_zreturn rfl dL_law_852,
  fun _ h => absurd h List.not_mem_nil⟩⟩⟩⟩⟩⟩⟩⟩⟩⟩⟩⟩⟩⟩⟩⟩⟩
set_option maxRecDepth 100000 in
theorem sdkL20 (hF : HF l D ca ad d F) (X : mX p s m args meth c R cL_law 4 RL (some .boolean) A D ca ad nc ns d) (hX : va_X (ad 1002) L xs s s.heap) (hbl : ad 1002 < s.heap.size) (hbA : ¬ A (ad 1002)) : ∀ q ∈ kL20 F L xs, mSnd (mAt p l e R s m args below meth c Q A D ca ad nc ns 4) (mJ p l e R s m args below meth c Q A D ca ad nc ns cL_law (some .boolean)) q.1 q.2 :=
  List.forall_mem_cons.mpr ⟨s_keep (s_aload_n X dL_law_853 rfl),
  List.forall_mem_cons.mpr ⟨s_aload_n X dL_law_854 rfl,
  List.forall_mem_cons.mpr ⟨s_iload_n X dL_law_855 rfl,
  List.forall_mem_cons.mpr ⟨s_iconst X dL_law_856 (by decide),
  List.forall_mem_cons.mpr ⟨s_iadd X dL_law_857,
  List.forall_mem_cons.mpr ⟨s_scrLd X hX hbl hbA dL_law_858,
  List.forall_mem_cons.mpr ⟨s_callV X (hF_X5_seed hF) wco_X5_seed ml_RL_96 cl_5 wim_X5_seed wse_X5_seed win_FountainTalk ⟨by decide +kernel, by decide +kernel, by decide +kernel, by decide +kernel⟩ (by decide) dL_law_859,
  List.forall_mem_cons.mpr ⟨s_aload_n X dL_law_862 rfl,
  List.forall_mem_cons.mpr ⟨s_aload_n X dL_law_863 rfl,
  List.forall_mem_cons.mpr ⟨s_iload_n X dL_law_864 rfl,
  List.forall_mem_cons.mpr ⟨s_iconst X dL_law_865 (by decide),
  List.forall_mem_cons.mpr ⟨s_iadd X dL_law_866,
  List.forall_mem_cons.mpr ⟨s_scrLd X hX hbl hbA dL_law_867,
  List.forall_mem_cons.mpr ⟨s_callV X (hF_X6_seed hF) wco_X6_seed ml_RL_99 cl_6 wim_X6_seed wse_X6_seed win_FountainTalkModel ⟨by decide +kernel, by decide +kernel, by decide +kernel, by decide +kernel⟩ (by decide) dL_law_868,
  List.forall_mem_cons.mpr ⟨s_icmp_eq X dL_law_871 (by decide),
  List.forall_mem_cons.mpr ⟨s_iconst X dL_law_874 (by decide),
  List.forall_mem_cons.mpr ⟨s_zreturn rfl dL_law_875,
  fun _ h => absurd h List.not_mem_nil⟩⟩⟩⟩⟩⟩⟩⟩⟩⟩⟩⟩⟩⟩⟩⟩⟩
set_option maxRecDepth 100000 in
theorem sdkL21 (hF : HF l D ca ad d F) (X : mX p s m args meth c R cL_law 4 RL (some .boolean) A D ca ad nc ns d) (hX : va_X (ad 1002) L xs s s.heap) (hbl : ad 1002 < s.heap.size) (hbA : ¬ A (ad 1002)) : ∀ q ∈ kL21 F L xs, mSnd (mAt p l e R s m args below meth c Q A D ca ad nc ns 4) (mJ p l e R s m args below meth c Q A D ca ad nc ns cL_law (some .boolean)) q.1 q.2 :=
  List.forall_mem_cons.mpr ⟨s_keep (s_aload_n X dL_law_876 rfl),
  List.forall_mem_cons.mpr ⟨s_aload_n X dL_law_877 rfl,
  List.forall_mem_cons.mpr ⟨s_iload_n X dL_law_878 rfl,
  List.forall_mem_cons.mpr ⟨s_iconst X dL_law_879 (by decide),
  List.forall_mem_cons.mpr ⟨s_iadd X dL_law_880,
  List.forall_mem_cons.mpr ⟨s_scrLd X hX hbl hbA dL_law_881,
  List.forall_mem_cons.mpr ⟨s_aload_n X dL_law_882 rfl,
  List.forall_mem_cons.mpr ⟨s_iload_n X dL_law_883 rfl,
  List.forall_mem_cons.mpr ⟨s_iconst X dL_law_884 (by decide),
  List.forall_mem_cons.mpr ⟨s_iadd X dL_law_885,
  List.forall_mem_cons.mpr ⟨s_scrLd X hX hbl hbA dL_law_886,
  List.forall_mem_cons.mpr ⟨s_aload_n X dL_law_887 rfl,
  List.forall_mem_cons.mpr ⟨s_iload_n X dL_law_888 rfl,
  List.forall_mem_cons.mpr ⟨s_iconst X dL_law_889 (by decide),
  List.forall_mem_cons.mpr ⟨s_iadd X dL_law_890,
  List.forall_mem_cons.mpr ⟨s_scrLd X hX hbl hbA dL_law_891,
  List.forall_mem_cons.mpr ⟨s_aload_n X dL_law_892 rfl,
  List.forall_mem_cons.mpr ⟨s_iload_n X dL_law_893 rfl,
  List.forall_mem_cons.mpr ⟨s_iconst X dL_law_894 (by decide),
  List.forall_mem_cons.mpr ⟨s_iadd X dL_law_895,
  List.forall_mem_cons.mpr ⟨s_scrLd X hX hbl hbA dL_law_896,
  List.forall_mem_cons.mpr ⟨s_callV X (hF_X5_hush hF) wco_X5_hush ml_RL_100 cl_5 wim_X5_hush wse_X5_hush win_FountainTalk ⟨by decide +kernel, by decide +kernel, by decide +kernel, by decide +kernel⟩ (by decide) dL_law_897,
  List.forall_mem_cons.mpr ⟨s_aload_n X dL_law_900 rfl,
  List.forall_mem_cons.mpr ⟨s_aload_n X dL_law_901 rfl,
  List.forall_mem_cons.mpr ⟨s_iload_n X dL_law_902 rfl,
  List.forall_mem_cons.mpr ⟨s_iconst X dL_law_903 (by decide),
  List.forall_mem_cons.mpr ⟨s_iadd X dL_law_904,
  List.forall_mem_cons.mpr ⟨s_scrLd X hX hbl hbA dL_law_905,
  List.forall_mem_cons.mpr ⟨s_aload_n X dL_law_906 rfl,
  List.forall_mem_cons.mpr ⟨s_iload_n X dL_law_907 rfl,
  List.forall_mem_cons.mpr ⟨s_iconst X dL_law_908 (by decide),
  List.forall_mem_cons.mpr ⟨s_iadd X dL_law_909,
  List.forall_mem_cons.mpr ⟨s_scrLd X hX hbl hbA dL_law_910,
  List.forall_mem_cons.mpr ⟨s_aload_n X dL_law_911 rfl,
  List.forall_mem_cons.mpr ⟨s_iload_n X dL_law_912 rfl,
  List.forall_mem_cons.mpr ⟨s_iconst X dL_law_913 (by decide),
  List.forall_mem_cons.mpr ⟨s_iadd X dL_law_914,
  List.forall_mem_cons.mpr ⟨s_scrLd X hX hbl hbA dL_law_915,
  List.forall_mem_cons.mpr ⟨s_aload_n X dL_law_916 rfl,
  List.forall_mem_cons.mpr ⟨s_iload_n X dL_law_917 rfl,
  List.forall_mem_cons.mpr ⟨s_iconst X dL_law_918 (by decide),
  List.forall_mem_cons.mpr ⟨s_iadd X dL_law_919,
  List.forall_mem_cons.mpr ⟨s_scrLd X hX hbl hbA dL_law_920,
  List.forall_mem_cons.mpr ⟨s_callV X (hF_X6_hush hF) wco_X6_hush ml_RL_103 cl_6 wim_X6_hush wse_X6_hush win_FountainTalkModel ⟨by decide +kernel, by decide +kernel, by decide +kernel, by decide +kernel⟩ (by decide) dL_law_921,
  List.forall_mem_cons.mpr ⟨s_icmp_eq X dL_law_924 (by decide),
  List.forall_mem_cons.mpr ⟨s_iconst X dL_law_927 (by decide),
  List.forall_mem_cons.mpr ⟨s_zreturn rfl dL_law_928,
  fun _ h => absurd h List.not_mem_nil⟩⟩⟩⟩⟩⟩⟩⟩⟩⟩⟩⟩⟩⟩⟩⟩⟩⟩⟩⟩⟩⟩⟩⟩⟩⟩⟩⟩⟩⟩⟩⟩⟩⟩⟩⟩⟩⟩⟩⟩⟩⟩⟩⟩⟩⟩⟩
set_option maxRecDepth 100000 in
theorem sdkL22 (hF : HF l D ca ad d F) (X : mX p s m args meth c R cL_law 4 RL (some .boolean) A D ca ad nc ns d) (hX : va_X (ad 1002) L xs s s.heap) (hbl : ad 1002 < s.heap.size) (hbA : ¬ A (ad 1002)) : ∀ q ∈ kL22 F L xs, mSnd (mAt p l e R s m args below meth c Q A D ca ad nc ns 4) (mJ p l e R s m args below meth c Q A D ca ad nc ns cL_law (some .boolean)) q.1 q.2 :=
  List.forall_mem_cons.mpr ⟨s_keep (s_aload_n X dL_law_929 rfl),
  List.forall_mem_cons.mpr ⟨s_aload_n X dL_law_930 rfl,
  List.forall_mem_cons.mpr ⟨s_iload_n X dL_law_931 rfl,
  List.forall_mem_cons.mpr ⟨s_iconst X dL_law_932 (by decide),
  List.forall_mem_cons.mpr ⟨s_iadd X dL_law_933,
  List.forall_mem_cons.mpr ⟨s_scrLd X hX hbl hbA dL_law_934,
  List.forall_mem_cons.mpr ⟨s_aload_n X dL_law_935 rfl,
  List.forall_mem_cons.mpr ⟨s_iload_n X dL_law_936 rfl,
  List.forall_mem_cons.mpr ⟨s_iconst X dL_law_937 (by decide),
  List.forall_mem_cons.mpr ⟨s_iadd X dL_law_938,
  List.forall_mem_cons.mpr ⟨s_scrLd X hX hbl hbA dL_law_939,
  List.forall_mem_cons.mpr ⟨s_aload_n X dL_law_940 rfl,
  List.forall_mem_cons.mpr ⟨s_iload_n X dL_law_941 rfl,
  List.forall_mem_cons.mpr ⟨s_iconst X dL_law_942 (by decide),
  List.forall_mem_cons.mpr ⟨s_iadd X dL_law_943,
  List.forall_mem_cons.mpr ⟨s_scrLd X hX hbl hbA dL_law_944,
  List.forall_mem_cons.mpr ⟨s_aload_n X dL_law_945 rfl,
  List.forall_mem_cons.mpr ⟨s_iload_n X dL_law_946 rfl,
  List.forall_mem_cons.mpr ⟨s_iconst X dL_law_947 (by decide),
  List.forall_mem_cons.mpr ⟨s_iadd X dL_law_948,
  List.forall_mem_cons.mpr ⟨s_scrLd X hX hbl hbA dL_law_949,
  List.forall_mem_cons.mpr ⟨s_aload_n X dL_law_950 rfl,
  List.forall_mem_cons.mpr ⟨s_iload_n X dL_law_951 rfl,
  List.forall_mem_cons.mpr ⟨s_iconst X dL_law_952 (by decide),
  List.forall_mem_cons.mpr ⟨s_iadd X dL_law_953,
  List.forall_mem_cons.mpr ⟨s_scrLd X hX hbl hbA dL_law_954,
  List.forall_mem_cons.mpr ⟨s_callV X (hF_X5_reach hF) wco_X5_reach ml_RL_104 cl_5 wim_X5_reach wse_X5_reach win_FountainTalk ⟨by decide +kernel, by decide +kernel, by decide +kernel, by decide +kernel⟩ (by decide) dL_law_955,
  List.forall_mem_cons.mpr ⟨s_aload_n X dL_law_958 rfl,
  List.forall_mem_cons.mpr ⟨s_aload_n X dL_law_959 rfl,
  List.forall_mem_cons.mpr ⟨s_iload_n X dL_law_960 rfl,
  List.forall_mem_cons.mpr ⟨s_iconst X dL_law_961 (by decide),
  List.forall_mem_cons.mpr ⟨s_iadd X dL_law_962,
  List.forall_mem_cons.mpr ⟨s_scrLd X hX hbl hbA dL_law_963,
  List.forall_mem_cons.mpr ⟨s_aload_n X dL_law_964 rfl,
  List.forall_mem_cons.mpr ⟨s_iload_n X dL_law_965 rfl,
  List.forall_mem_cons.mpr ⟨s_iconst X dL_law_966 (by decide),
  List.forall_mem_cons.mpr ⟨s_iadd X dL_law_967,
  List.forall_mem_cons.mpr ⟨s_scrLd X hX hbl hbA dL_law_968,
  List.forall_mem_cons.mpr ⟨s_aload_n X dL_law_969 rfl,
  List.forall_mem_cons.mpr ⟨s_iload_n X dL_law_970 rfl,
  List.forall_mem_cons.mpr ⟨s_iconst X dL_law_971 (by decide),
  List.forall_mem_cons.mpr ⟨s_iadd X dL_law_972,
  List.forall_mem_cons.mpr ⟨s_scrLd X hX hbl hbA dL_law_973,
  List.forall_mem_cons.mpr ⟨s_aload_n X dL_law_974 rfl,
  List.forall_mem_cons.mpr ⟨s_iload_n X dL_law_975 rfl,
  List.forall_mem_cons.mpr ⟨s_iconst X dL_law_976 (by decide),
  List.forall_mem_cons.mpr ⟨s_iadd X dL_law_977,
  List.forall_mem_cons.mpr ⟨s_scrLd X hX hbl hbA dL_law_978,
  List.forall_mem_cons.mpr ⟨s_aload_n X dL_law_979 rfl,
  List.forall_mem_cons.mpr ⟨s_iload_n X dL_law_980 rfl,
  List.forall_mem_cons.mpr ⟨s_iconst X dL_law_981 (by decide),
  List.forall_mem_cons.mpr ⟨s_iadd X dL_law_982,
  List.forall_mem_cons.mpr ⟨s_scrLd X hX hbl hbA dL_law_983,
  List.forall_mem_cons.mpr ⟨s_callV X (hF_X6_reach hF) wco_X6_reach ml_RL_108 cl_6 wim_X6_reach wse_X6_reach win_FountainTalkModel ⟨by decide +kernel, by decide +kernel, by decide +kernel, by decide +kernel⟩ (by decide) dL_law_984,
  List.forall_mem_cons.mpr ⟨s_icmp_eq X dL_law_987 (by decide),
  List.forall_mem_cons.mpr ⟨s_iconst X dL_law_990 (by decide),
  List.forall_mem_cons.mpr ⟨s_zreturn rfl dL_law_991,
  fun _ h => absurd h List.not_mem_nil⟩⟩⟩⟩⟩⟩⟩⟩⟩⟩⟩⟩⟩⟩⟩⟩⟩⟩⟩⟩⟩⟩⟩⟩⟩⟩⟩⟩⟩⟩⟩⟩⟩⟩⟩⟩⟩⟩⟩⟩⟩⟩⟩⟩⟩⟩⟩⟩⟩⟩⟩⟩⟩⟩⟩⟩⟩
set_option maxRecDepth 100000 in
theorem sdkL23 (hF : HF l D ca ad d F) (X : mX p s m args meth c R cL_law 4 RL (some .boolean) A D ca ad nc ns d) (hX : va_X (ad 1002) L xs s s.heap) (hbl : ad 1002 < s.heap.size) (hbA : ¬ A (ad 1002)) : ∀ q ∈ kL23 F L xs, mSnd (mAt p l e R s m args below meth c Q A D ca ad nc ns 4) (mJ p l e R s m args below meth c Q A D ca ad nc ns cL_law (some .boolean)) q.1 q.2 :=
  List.forall_mem_cons.mpr ⟨s_keep (s_aload_n X dL_law_992 rfl),
  List.forall_mem_cons.mpr ⟨s_aload_n X dL_law_993 rfl,
  List.forall_mem_cons.mpr ⟨s_iload_n X dL_law_994 rfl,
  List.forall_mem_cons.mpr ⟨s_iconst X dL_law_995 (by decide),
  List.forall_mem_cons.mpr ⟨s_iadd X dL_law_996,
  List.forall_mem_cons.mpr ⟨s_scrLd X hX hbl hbA dL_law_997,
  List.forall_mem_cons.mpr ⟨s_aload_n X dL_law_998 rfl,
  List.forall_mem_cons.mpr ⟨s_iload_n X dL_law_999 rfl,
  List.forall_mem_cons.mpr ⟨s_iconst X dL_law_1000 (by decide),
  List.forall_mem_cons.mpr ⟨s_iadd X dL_law_1001,
  List.forall_mem_cons.mpr ⟨s_scrLd X hX hbl hbA dL_law_1002,
  List.forall_mem_cons.mpr ⟨s_aload_n X dL_law_1003 rfl,
  List.forall_mem_cons.mpr ⟨s_iload_n X dL_law_1004 rfl,
  List.forall_mem_cons.mpr ⟨s_iconst X dL_law_1005 (by decide),
  List.forall_mem_cons.mpr ⟨s_iadd X dL_law_1006,
  List.forall_mem_cons.mpr ⟨s_scrLd X hX hbl hbA dL_law_1007,
  List.forall_mem_cons.mpr ⟨s_callV X (hF_X5_odds hF) wco_X5_odds ml_RL_109 cl_5 wim_X5_odds wse_X5_odds win_FountainTalk ⟨by decide +kernel, by decide +kernel, by decide +kernel, by decide +kernel⟩ (by decide) dL_law_1008,
  List.forall_mem_cons.mpr ⟨s_aload_n X dL_law_1011 rfl,
  List.forall_mem_cons.mpr ⟨s_aload_n X dL_law_1012 rfl,
  List.forall_mem_cons.mpr ⟨s_iload_n X dL_law_1013 rfl,
  List.forall_mem_cons.mpr ⟨s_iconst X dL_law_1014 (by decide),
  List.forall_mem_cons.mpr ⟨s_iadd X dL_law_1015,
  List.forall_mem_cons.mpr ⟨s_scrLd X hX hbl hbA dL_law_1016,
  List.forall_mem_cons.mpr ⟨s_aload_n X dL_law_1017 rfl,
  List.forall_mem_cons.mpr ⟨s_iload_n X dL_law_1018 rfl,
  List.forall_mem_cons.mpr ⟨s_iconst X dL_law_1019 (by decide),
  List.forall_mem_cons.mpr ⟨s_iadd X dL_law_1020,
  List.forall_mem_cons.mpr ⟨s_scrLd X hX hbl hbA dL_law_1021,
  List.forall_mem_cons.mpr ⟨s_aload_n X dL_law_1022 rfl,
  List.forall_mem_cons.mpr ⟨s_iload_n X dL_law_1023 rfl,
  List.forall_mem_cons.mpr ⟨s_iconst X dL_law_1024 (by decide),
  List.forall_mem_cons.mpr ⟨s_iadd X dL_law_1025,
  List.forall_mem_cons.mpr ⟨s_scrLd X hX hbl hbA dL_law_1026,
  List.forall_mem_cons.mpr ⟨s_callV X (hF_X6_odds hF) wco_X6_odds ml_RL_112 cl_6 wim_X6_odds wse_X6_odds win_FountainTalkModel ⟨by decide +kernel, by decide +kernel, by decide +kernel, by decide +kernel⟩ (by decide) dL_law_1027,
  List.forall_mem_cons.mpr ⟨s_icmp_eq X dL_law_1030 (by decide),
  List.forall_mem_cons.mpr ⟨s_iconst X dL_law_1033 (by decide),
  List.forall_mem_cons.mpr ⟨s_zreturn rfl dL_law_1034,
  fun _ h => absurd h List.not_mem_nil⟩⟩⟩⟩⟩⟩⟩⟩⟩⟩⟩⟩⟩⟩⟩⟩⟩⟩⟩⟩⟩⟩⟩⟩⟩⟩⟩⟩⟩⟩⟩⟩⟩⟩⟩⟩⟩
set_option maxRecDepth 100000 in
theorem sdkL24 (hF : HF l D ca ad d F) (X : mX p s m args meth c R cL_law 4 RL (some .boolean) A D ca ad nc ns d) (hX : va_X (ad 1002) L xs s s.heap) (hbl : ad 1002 < s.heap.size) (hbA : ¬ A (ad 1002)) : ∀ q ∈ kL24 F L xs, mSnd (mAt p l e R s m args below meth c Q A D ca ad nc ns 4) (mJ p l e R s m args below meth c Q A D ca ad nc ns cL_law (some .boolean)) q.1 q.2 :=
  List.forall_mem_cons.mpr ⟨s_keep (s_aload_n X dL_law_1035 rfl),
  List.forall_mem_cons.mpr ⟨s_aload_n X dL_law_1036 rfl,
  List.forall_mem_cons.mpr ⟨s_iload_n X dL_law_1037 rfl,
  List.forall_mem_cons.mpr ⟨s_iconst X dL_law_1038 (by decide),
  List.forall_mem_cons.mpr ⟨s_iadd X dL_law_1039,
  List.forall_mem_cons.mpr ⟨s_scrLd X hX hbl hbA dL_law_1040,
  List.forall_mem_cons.mpr ⟨s_aload_n X dL_law_1041 rfl,
  List.forall_mem_cons.mpr ⟨s_iload_n X dL_law_1042 rfl,
  List.forall_mem_cons.mpr ⟨s_iconst X dL_law_1043 (by decide),
  List.forall_mem_cons.mpr ⟨s_iadd X dL_law_1044,
  List.forall_mem_cons.mpr ⟨s_scrLd X hX hbl hbA dL_law_1045,
  List.forall_mem_cons.mpr ⟨s_callV X (hF_X5_fits hF) wco_X5_fits ml_RL_113 cl_5 wim_X5_fits wse_X5_fits win_FountainTalk ⟨by decide +kernel, by decide +kernel, by decide +kernel, by decide +kernel⟩ (by decide) dL_law_1046,
  List.forall_mem_cons.mpr ⟨s_aload_n X dL_law_1049 rfl,
  List.forall_mem_cons.mpr ⟨s_aload_n X dL_law_1050 rfl,
  List.forall_mem_cons.mpr ⟨s_iload_n X dL_law_1051 rfl,
  List.forall_mem_cons.mpr ⟨s_iconst X dL_law_1052 (by decide),
  List.forall_mem_cons.mpr ⟨s_iadd X dL_law_1053,
  List.forall_mem_cons.mpr ⟨s_scrLd X hX hbl hbA dL_law_1054,
  List.forall_mem_cons.mpr ⟨s_aload_n X dL_law_1055 rfl,
  List.forall_mem_cons.mpr ⟨s_iload_n X dL_law_1056 rfl,
  List.forall_mem_cons.mpr ⟨s_iconst X dL_law_1057 (by decide),
  List.forall_mem_cons.mpr ⟨s_iadd X dL_law_1058,
  List.forall_mem_cons.mpr ⟨s_scrLd X hX hbl hbA dL_law_1059,
  List.forall_mem_cons.mpr ⟨s_callV X (hF_X6_fits hF) wco_X6_fits ml_RL_116 cl_6 wim_X6_fits wse_X6_fits win_FountainTalkModel ⟨by decide +kernel, by decide +kernel, by decide +kernel, by decide +kernel⟩ (by decide) dL_law_1060,
  List.forall_mem_cons.mpr ⟨s_icmp_eq X dL_law_1063 (by decide),
  List.forall_mem_cons.mpr ⟨s_iconst X dL_law_1066 (by decide),
  List.forall_mem_cons.mpr ⟨s_zreturn rfl dL_law_1067,
  fun _ h => absurd h List.not_mem_nil⟩⟩⟩⟩⟩⟩⟩⟩⟩⟩⟩⟩⟩⟩⟩⟩⟩⟩⟩⟩⟩⟩⟩⟩⟩⟩⟩
set_option maxRecDepth 100000 in
theorem sdkL25 (hF : HF l D ca ad d F) (X : mX p s m args meth c R cL_law 4 RL (some .boolean) A D ca ad nc ns d) (hX : va_X (ad 1002) L xs s s.heap) (hbl : ad 1002 < s.heap.size) (hbA : ¬ A (ad 1002)) : ∀ q ∈ kL25 F L xs, mSnd (mAt p l e R s m args below meth c Q A D ca ad nc ns 4) (mJ p l e R s m args below meth c Q A D ca ad nc ns cL_law (some .boolean)) q.1 q.2 :=
  List.forall_mem_cons.mpr ⟨s_keep (s_aload_n X dL_law_1068 rfl),
  List.forall_mem_cons.mpr ⟨s_aload_n X dL_law_1069 rfl,
  List.forall_mem_cons.mpr ⟨s_iload_n X dL_law_1070 rfl,
  List.forall_mem_cons.mpr ⟨s_iconst X dL_law_1071 (by decide),
  List.forall_mem_cons.mpr ⟨s_iadd X dL_law_1072,
  List.forall_mem_cons.mpr ⟨s_scrLd X hX hbl hbA dL_law_1073,
  List.forall_mem_cons.mpr ⟨s_aload_n X dL_law_1074 rfl,
  List.forall_mem_cons.mpr ⟨s_iload_n X dL_law_1075 rfl,
  List.forall_mem_cons.mpr ⟨s_iconst X dL_law_1076 (by decide),
  List.forall_mem_cons.mpr ⟨s_iadd X dL_law_1077,
  List.forall_mem_cons.mpr ⟨s_scrLd X hX hbl hbA dL_law_1078,
  List.forall_mem_cons.mpr ⟨s_aload_n X dL_law_1079 rfl,
  List.forall_mem_cons.mpr ⟨s_iload_n X dL_law_1080 rfl,
  List.forall_mem_cons.mpr ⟨s_iconst X dL_law_1081 (by decide),
  List.forall_mem_cons.mpr ⟨s_iadd X dL_law_1082,
  List.forall_mem_cons.mpr ⟨s_scrLd X hX hbl hbA dL_law_1083,
  List.forall_mem_cons.mpr ⟨s_callV X (hF_X5_voice hF) wco_X5_voice ml_RL_117 cl_5 wim_X5_voice wse_X5_voice win_FountainTalk ⟨by decide +kernel, by decide +kernel, by decide +kernel, by decide +kernel⟩ (by decide) dL_law_1084,
  List.forall_mem_cons.mpr ⟨s_aload_n X dL_law_1087 rfl,
  List.forall_mem_cons.mpr ⟨s_aload_n X dL_law_1088 rfl,
  List.forall_mem_cons.mpr ⟨s_iload_n X dL_law_1089 rfl,
  List.forall_mem_cons.mpr ⟨s_iconst X dL_law_1090 (by decide),
  List.forall_mem_cons.mpr ⟨s_iadd X dL_law_1091,
  List.forall_mem_cons.mpr ⟨s_scrLd X hX hbl hbA dL_law_1092,
  List.forall_mem_cons.mpr ⟨s_aload_n X dL_law_1093 rfl,
  List.forall_mem_cons.mpr ⟨s_iload_n X dL_law_1094 rfl,
  List.forall_mem_cons.mpr ⟨s_iconst X dL_law_1095 (by decide),
  List.forall_mem_cons.mpr ⟨s_iadd X dL_law_1096,
  List.forall_mem_cons.mpr ⟨s_scrLd X hX hbl hbA dL_law_1097,
  List.forall_mem_cons.mpr ⟨s_aload_n X dL_law_1098 rfl,
  List.forall_mem_cons.mpr ⟨s_iload_n X dL_law_1099 rfl,
  List.forall_mem_cons.mpr ⟨s_iconst X dL_law_1100 (by decide),
  List.forall_mem_cons.mpr ⟨s_iadd X dL_law_1101,
  List.forall_mem_cons.mpr ⟨s_scrLd X hX hbl hbA dL_law_1102,
  List.forall_mem_cons.mpr ⟨s_callV X (hF_X6_voice hF) wco_X6_voice ml_RL_120 cl_6 wim_X6_voice wse_X6_voice win_FountainTalkModel ⟨by decide +kernel, by decide +kernel, by decide +kernel, by decide +kernel⟩ (by decide) dL_law_1103,
  List.forall_mem_cons.mpr ⟨s_icmp_eq X dL_law_1106 (by decide),
  List.forall_mem_cons.mpr ⟨s_iconst X dL_law_1109 (by decide),
  List.forall_mem_cons.mpr ⟨s_zreturn rfl dL_law_1110,
  fun _ h => absurd h List.not_mem_nil⟩⟩⟩⟩⟩⟩⟩⟩⟩⟩⟩⟩⟩⟩⟩⟩⟩⟩⟩⟩⟩⟩⟩⟩⟩⟩⟩⟩⟩⟩⟩⟩⟩⟩⟩⟩⟩
set_option maxRecDepth 100000 in
theorem sdkL26 (hF : HF l D ca ad d F) (X : mX p s m args meth c R cL_law 4 RL (some .boolean) A D ca ad nc ns d) (hX : va_X (ad 1002) L xs s s.heap) (hbl : ad 1002 < s.heap.size) (hbA : ¬ A (ad 1002)) : ∀ q ∈ kL26 F L xs, mSnd (mAt p l e R s m args below meth c Q A D ca ad nc ns 4) (mJ p l e R s m args below meth c Q A D ca ad nc ns cL_law (some .boolean)) q.1 q.2 :=
  List.forall_mem_cons.mpr ⟨s_keep (s_aload_n X dL_law_1111 rfl),
  List.forall_mem_cons.mpr ⟨s_aload_n X dL_law_1112 rfl,
  List.forall_mem_cons.mpr ⟨s_iload_n X dL_law_1113 rfl,
  List.forall_mem_cons.mpr ⟨s_iconst X dL_law_1114 (by decide),
  List.forall_mem_cons.mpr ⟨s_iadd X dL_law_1115,
  List.forall_mem_cons.mpr ⟨s_scrLd X hX hbl hbA dL_law_1116,
  List.forall_mem_cons.mpr ⟨s_callV X (hF_X5_body hF) wco_X5_body ml_RL_121 cl_5 wim_X5_body wse_X5_body win_FountainTalk ⟨by decide +kernel, by decide +kernel, by decide +kernel, by decide +kernel⟩ (by decide) dL_law_1117,
  List.forall_mem_cons.mpr ⟨s_aload_n X dL_law_1120 rfl,
  List.forall_mem_cons.mpr ⟨s_aload_n X dL_law_1121 rfl,
  List.forall_mem_cons.mpr ⟨s_iload_n X dL_law_1122 rfl,
  List.forall_mem_cons.mpr ⟨s_iconst X dL_law_1123 (by decide),
  List.forall_mem_cons.mpr ⟨s_iadd X dL_law_1124,
  List.forall_mem_cons.mpr ⟨s_scrLd X hX hbl hbA dL_law_1125,
  List.forall_mem_cons.mpr ⟨s_callV X (hF_X6_body hF) wco_X6_body ml_RL_124 cl_6 wim_X6_body wse_X6_body win_FountainTalkModel ⟨by decide +kernel, by decide +kernel, by decide +kernel, by decide +kernel⟩ (by decide) dL_law_1126,
  List.forall_mem_cons.mpr ⟨s_icmp_eq X dL_law_1129 (by decide),
  List.forall_mem_cons.mpr ⟨s_iconst X dL_law_1132 (by decide),
  List.forall_mem_cons.mpr ⟨s_zreturn rfl dL_law_1133,
  fun _ h => absurd h List.not_mem_nil⟩⟩⟩⟩⟩⟩⟩⟩⟩⟩⟩⟩⟩⟩⟩⟩⟩
set_option maxRecDepth 100000 in
theorem sdkL27 (hF : HF l D ca ad d F) (X : mX p s m args meth c R cL_law 4 RL (some .boolean) A D ca ad nc ns d) (hX : va_X (ad 1002) L xs s s.heap) (hbl : ad 1002 < s.heap.size) (hbA : ¬ A (ad 1002)) : ∀ q ∈ kL27 F L xs, mSnd (mAt p l e R s m args below meth c Q A D ca ad nc ns 4) (mJ p l e R s m args below meth c Q A D ca ad nc ns cL_law (some .boolean)) q.1 q.2 :=
  List.forall_mem_cons.mpr ⟨s_keep (s_aload_n X dL_law_1134 rfl),
  List.forall_mem_cons.mpr ⟨s_aload_n X dL_law_1135 rfl,
  List.forall_mem_cons.mpr ⟨s_iload_n X dL_law_1136 rfl,
  List.forall_mem_cons.mpr ⟨s_iconst X dL_law_1137 (by decide),
  List.forall_mem_cons.mpr ⟨s_iadd X dL_law_1138,
  List.forall_mem_cons.mpr ⟨s_scrLd X hX hbl hbA dL_law_1139,
  List.forall_mem_cons.mpr ⟨s_aload_n X dL_law_1140 rfl,
  List.forall_mem_cons.mpr ⟨s_iload_n X dL_law_1141 rfl,
  List.forall_mem_cons.mpr ⟨s_iconst X dL_law_1142 (by decide),
  List.forall_mem_cons.mpr ⟨s_iadd X dL_law_1143,
  List.forall_mem_cons.mpr ⟨s_scrLd X hX hbl hbA dL_law_1144,
  List.forall_mem_cons.mpr ⟨s_aload_n X dL_law_1145 rfl,
  List.forall_mem_cons.mpr ⟨s_iload_n X dL_law_1146 rfl,
  List.forall_mem_cons.mpr ⟨s_iconst X dL_law_1147 (by decide),
  List.forall_mem_cons.mpr ⟨s_iadd X dL_law_1148,
  List.forall_mem_cons.mpr ⟨s_scrLd X hX hbl hbA dL_law_1149,
  List.forall_mem_cons.mpr ⟨s_callV X (hF_X5_sheet hF) wco_X5_sheet ml_RL_125 cl_5 wim_X5_sheet wse_X5_sheet win_FountainTalk ⟨by decide +kernel, by decide +kernel, by decide +kernel, by decide +kernel⟩ (by decide) dL_law_1150,
  List.forall_mem_cons.mpr ⟨s_aload_n X dL_law_1153 rfl,
  List.forall_mem_cons.mpr ⟨s_aload_n X dL_law_1154 rfl,
  List.forall_mem_cons.mpr ⟨s_iload_n X dL_law_1155 rfl,
  List.forall_mem_cons.mpr ⟨s_iconst X dL_law_1156 (by decide),
  List.forall_mem_cons.mpr ⟨s_iadd X dL_law_1157,
  List.forall_mem_cons.mpr ⟨s_scrLd X hX hbl hbA dL_law_1158,
  List.forall_mem_cons.mpr ⟨s_aload_n X dL_law_1159 rfl,
  List.forall_mem_cons.mpr ⟨s_iload_n X dL_law_1160 rfl,
  List.forall_mem_cons.mpr ⟨s_iconst X dL_law_1161 (by decide),
  List.forall_mem_cons.mpr ⟨s_iadd X dL_law_1162,
  List.forall_mem_cons.mpr ⟨s_scrLd X hX hbl hbA dL_law_1163,
  List.forall_mem_cons.mpr ⟨s_aload_n X dL_law_1164 rfl,
  List.forall_mem_cons.mpr ⟨s_iload_n X dL_law_1165 rfl,
  List.forall_mem_cons.mpr ⟨s_iconst X dL_law_1166 (by decide),
  List.forall_mem_cons.mpr ⟨s_iadd X dL_law_1167,
  List.forall_mem_cons.mpr ⟨s_scrLd X hX hbl hbA dL_law_1168,
  List.forall_mem_cons.mpr ⟨s_callV X (hF_X6_sheet hF) wco_X6_sheet ml_RL_128 cl_6 wim_X6_sheet wse_X6_sheet win_FountainTalkModel ⟨by decide +kernel, by decide +kernel, by decide +kernel, by decide +kernel⟩ (by decide) dL_law_1169,
  List.forall_mem_cons.mpr ⟨s_icmp_eq X dL_law_1172 (by decide),
  List.forall_mem_cons.mpr ⟨s_iconst X dL_law_1175 (by decide),
  List.forall_mem_cons.mpr ⟨s_zreturn rfl dL_law_1176,
  fun _ h => absurd h List.not_mem_nil⟩⟩⟩⟩⟩⟩⟩⟩⟩⟩⟩⟩⟩⟩⟩⟩⟩⟩⟩⟩⟩⟩⟩⟩⟩⟩⟩⟩⟩⟩⟩⟩⟩⟩⟩⟩⟩
set_option maxRecDepth 100000 in
theorem sdkL28 (hF : HF l D ca ad d F) (X : mX p s m args meth c R cL_law 4 RL (some .boolean) A D ca ad nc ns d) (hX : va_X (ad 1002) L xs s s.heap) (hbl : ad 1002 < s.heap.size) (hbA : ¬ A (ad 1002)) : ∀ q ∈ kL28 F L xs, mSnd (mAt p l e R s m args below meth c Q A D ca ad nc ns 4) (mJ p l e R s m args below meth c Q A D ca ad nc ns cL_law (some .boolean)) q.1 q.2 :=
  List.forall_mem_cons.mpr ⟨s_keep (s_aload_n X dL_law_1177 rfl),
  List.forall_mem_cons.mpr ⟨s_aload_n X dL_law_1178 rfl,
  List.forall_mem_cons.mpr ⟨s_iload_n X dL_law_1179 rfl,
  List.forall_mem_cons.mpr ⟨s_iconst X dL_law_1180 (by decide),
  List.forall_mem_cons.mpr ⟨s_iadd X dL_law_1181,
  List.forall_mem_cons.mpr ⟨s_scrLd X hX hbl hbA dL_law_1182,
  List.forall_mem_cons.mpr ⟨s_aload_n X dL_law_1183 rfl,
  List.forall_mem_cons.mpr ⟨s_iload_n X dL_law_1184 rfl,
  List.forall_mem_cons.mpr ⟨s_iconst X dL_law_1185 (by decide),
  List.forall_mem_cons.mpr ⟨s_iadd X dL_law_1186,
  List.forall_mem_cons.mpr ⟨s_scrLd X hX hbl hbA dL_law_1187,
  List.forall_mem_cons.mpr ⟨s_aload_n X dL_law_1188 rfl,
  List.forall_mem_cons.mpr ⟨s_iload_n X dL_law_1189 rfl,
  List.forall_mem_cons.mpr ⟨s_iconst X dL_law_1190 (by decide),
  List.forall_mem_cons.mpr ⟨s_iadd X dL_law_1191,
  List.forall_mem_cons.mpr ⟨s_scrLd X hX hbl hbA dL_law_1192,
  List.forall_mem_cons.mpr ⟨s_callV X (hF_X5_put hF) wco_X5_put ml_RL_129 cl_5 wim_X5_put wse_X5_put win_FountainTalk ⟨by decide +kernel, by decide +kernel, by decide +kernel, by decide +kernel⟩ (by decide) dL_law_1193,
  List.forall_mem_cons.mpr ⟨s_aload_n X dL_law_1196 rfl,
  List.forall_mem_cons.mpr ⟨s_aload_n X dL_law_1197 rfl,
  List.forall_mem_cons.mpr ⟨s_iload_n X dL_law_1198 rfl,
  List.forall_mem_cons.mpr ⟨s_iconst X dL_law_1199 (by decide),
  List.forall_mem_cons.mpr ⟨s_iadd X dL_law_1200,
  List.forall_mem_cons.mpr ⟨s_scrLd X hX hbl hbA dL_law_1201,
  List.forall_mem_cons.mpr ⟨s_aload_n X dL_law_1202 rfl,
  List.forall_mem_cons.mpr ⟨s_iload_n X dL_law_1203 rfl,
  List.forall_mem_cons.mpr ⟨s_iconst X dL_law_1204 (by decide),
  List.forall_mem_cons.mpr ⟨s_iadd X dL_law_1205,
  List.forall_mem_cons.mpr ⟨s_scrLd X hX hbl hbA dL_law_1206,
  List.forall_mem_cons.mpr ⟨s_aload_n X dL_law_1207 rfl,
  List.forall_mem_cons.mpr ⟨s_iload_n X dL_law_1208 rfl,
  List.forall_mem_cons.mpr ⟨s_iconst X dL_law_1209 (by decide),
  List.forall_mem_cons.mpr ⟨s_iadd X dL_law_1210,
  List.forall_mem_cons.mpr ⟨s_scrLd X hX hbl hbA dL_law_1211,
  List.forall_mem_cons.mpr ⟨s_callV X (hF_X6_put hF) wco_X6_put ml_RL_132 cl_6 wim_X6_put wse_X6_put win_FountainTalkModel ⟨by decide +kernel, by decide +kernel, by decide +kernel, by decide +kernel⟩ (by decide) dL_law_1212,
  List.forall_mem_cons.mpr ⟨s_icmp_eq X dL_law_1215 (by decide),
  List.forall_mem_cons.mpr ⟨s_iconst X dL_law_1218 (by decide),
  List.forall_mem_cons.mpr ⟨s_zreturn rfl dL_law_1219,
  fun _ h => absurd h List.not_mem_nil⟩⟩⟩⟩⟩⟩⟩⟩⟩⟩⟩⟩⟩⟩⟩⟩⟩⟩⟩⟩⟩⟩⟩⟩⟩⟩⟩⟩⟩⟩⟩⟩⟩⟩⟩⟩⟩
set_option maxRecDepth 100000 in
theorem sdkL29 (hF : HF l D ca ad d F) (X : mX p s m args meth c R cL_law 4 RL (some .boolean) A D ca ad nc ns d) (hX : va_X (ad 1002) L xs s s.heap) (hbl : ad 1002 < s.heap.size) (hbA : ¬ A (ad 1002)) : ∀ q ∈ kL29 F L xs, mSnd (mAt p l e R s m args below meth c Q A D ca ad nc ns 4) (mJ p l e R s m args below meth c Q A D ca ad nc ns cL_law (some .boolean)) q.1 q.2 :=
  List.forall_mem_cons.mpr ⟨s_keep (s_aload_n X dL_law_1220 rfl),
  List.forall_mem_cons.mpr ⟨s_aload_n X dL_law_1221 rfl,
  List.forall_mem_cons.mpr ⟨s_iload_n X dL_law_1222 rfl,
  List.forall_mem_cons.mpr ⟨s_iconst X dL_law_1223 (by decide),
  List.forall_mem_cons.mpr ⟨s_iadd X dL_law_1224,
  List.forall_mem_cons.mpr ⟨s_scrLd X hX hbl hbA dL_law_1225,
  List.forall_mem_cons.mpr ⟨s_aload_n X dL_law_1226 rfl,
  List.forall_mem_cons.mpr ⟨s_iload_n X dL_law_1227 rfl,
  List.forall_mem_cons.mpr ⟨s_iconst X dL_law_1228 (by decide),
  List.forall_mem_cons.mpr ⟨s_iadd X dL_law_1229,
  List.forall_mem_cons.mpr ⟨s_scrLd X hX hbl hbA dL_law_1230,
  List.forall_mem_cons.mpr ⟨s_aload_n X dL_law_1231 rfl,
  List.forall_mem_cons.mpr ⟨s_iload_n X dL_law_1232 rfl,
  List.forall_mem_cons.mpr ⟨s_iconst X dL_law_1233 (by decide),
  List.forall_mem_cons.mpr ⟨s_iadd X dL_law_1234,
  List.forall_mem_cons.mpr ⟨s_scrLd X hX hbl hbA dL_law_1235,
  List.forall_mem_cons.mpr ⟨s_aload_n X dL_law_1236 rfl,
  List.forall_mem_cons.mpr ⟨s_iload_n X dL_law_1237 rfl,
  List.forall_mem_cons.mpr ⟨s_iconst X dL_law_1238 (by decide),
  List.forall_mem_cons.mpr ⟨s_iadd X dL_law_1239,
  List.forall_mem_cons.mpr ⟨s_scrLd X hX hbl hbA dL_law_1240,
  List.forall_mem_cons.mpr ⟨s_aload_n X dL_law_1241 rfl,
  List.forall_mem_cons.mpr ⟨s_iload_n X dL_law_1242 rfl,
  List.forall_mem_cons.mpr ⟨s_iconst X dL_law_1243 (by decide),
  List.forall_mem_cons.mpr ⟨s_iadd X dL_law_1244,
  List.forall_mem_cons.mpr ⟨s_scrLd X hX hbl hbA dL_law_1245,
  List.forall_mem_cons.mpr ⟨s_callV X (hF_X5_move hF) wco_X5_move ml_RL_133 cl_5 wim_X5_move wse_X5_move win_FountainTalk ⟨by decide +kernel, by decide +kernel, by decide +kernel, by decide +kernel⟩ (by decide) dL_law_1246,
  List.forall_mem_cons.mpr ⟨s_aload_n X dL_law_1249 rfl,
  List.forall_mem_cons.mpr ⟨s_aload_n X dL_law_1250 rfl,
  List.forall_mem_cons.mpr ⟨s_iload_n X dL_law_1251 rfl,
  List.forall_mem_cons.mpr ⟨s_iconst X dL_law_1252 (by decide),
  List.forall_mem_cons.mpr ⟨s_iadd X dL_law_1253,
  List.forall_mem_cons.mpr ⟨s_scrLd X hX hbl hbA dL_law_1254,
  List.forall_mem_cons.mpr ⟨s_aload_n X dL_law_1255 rfl,
  List.forall_mem_cons.mpr ⟨s_iload_n X dL_law_1256 rfl,
  List.forall_mem_cons.mpr ⟨s_iconst X dL_law_1257 (by decide),
  List.forall_mem_cons.mpr ⟨s_iadd X dL_law_1258,
  List.forall_mem_cons.mpr ⟨s_scrLd X hX hbl hbA dL_law_1259,
  List.forall_mem_cons.mpr ⟨s_aload_n X dL_law_1260 rfl,
  List.forall_mem_cons.mpr ⟨s_iload_n X dL_law_1261 rfl,
  List.forall_mem_cons.mpr ⟨s_iconst X dL_law_1262 (by decide),
  List.forall_mem_cons.mpr ⟨s_iadd X dL_law_1263,
  List.forall_mem_cons.mpr ⟨s_scrLd X hX hbl hbA dL_law_1264,
  List.forall_mem_cons.mpr ⟨s_aload_n X dL_law_1265 rfl,
  List.forall_mem_cons.mpr ⟨s_iload_n X dL_law_1266 rfl,
  List.forall_mem_cons.mpr ⟨s_iconst X dL_law_1267 (by decide),
  List.forall_mem_cons.mpr ⟨s_iadd X dL_law_1268,
  List.forall_mem_cons.mpr ⟨s_scrLd X hX hbl hbA dL_law_1269,
  List.forall_mem_cons.mpr ⟨s_aload_n X dL_law_1270 rfl,
  List.forall_mem_cons.mpr ⟨s_iload_n X dL_law_1271 rfl,
  List.forall_mem_cons.mpr ⟨s_iconst X dL_law_1272 (by decide),
  List.forall_mem_cons.mpr ⟨s_iadd X dL_law_1273,
  List.forall_mem_cons.mpr ⟨s_scrLd X hX hbl hbA dL_law_1274,
  List.forall_mem_cons.mpr ⟨s_callV X (hF_X6_move hF) wco_X6_move ml_RL_136 cl_6 wim_X6_move wse_X6_move win_FountainTalkModel ⟨by decide +kernel, by decide +kernel, by decide +kernel, by decide +kernel⟩ (by decide) dL_law_1275,
  List.forall_mem_cons.mpr ⟨s_icmp_eq X dL_law_1278 (by decide),
  List.forall_mem_cons.mpr ⟨s_iconst X dL_law_1281 (by decide),
  List.forall_mem_cons.mpr ⟨s_zreturn rfl dL_law_1282,
  fun _ h => absurd h List.not_mem_nil⟩⟩⟩⟩⟩⟩⟩⟩⟩⟩⟩⟩⟩⟩⟩⟩⟩⟩⟩⟩⟩⟩⟩⟩⟩⟩⟩⟩⟩⟩⟩⟩⟩⟩⟩⟩⟩⟩⟩⟩⟩⟩⟩⟩⟩⟩⟩⟩⟩⟩⟩⟩⟩⟩⟩⟩⟩
set_option maxRecDepth 100000 in
theorem sdkL30 (hF : HF l D ca ad d F) (X : mX p s m args meth c R cL_law 4 RL (some .boolean) A D ca ad nc ns d) (hX : va_X (ad 1002) L xs s s.heap) (hbl : ad 1002 < s.heap.size) (hbA : ¬ A (ad 1002)) : ∀ q ∈ kL30 F L xs, mSnd (mAt p l e R s m args below meth c Q A D ca ad nc ns 4) (mJ p l e R s m args below meth c Q A D ca ad nc ns cL_law (some .boolean)) q.1 q.2 :=
  List.forall_mem_cons.mpr ⟨s_keep (s_aload_n X dL_law_1283 rfl),
  List.forall_mem_cons.mpr ⟨s_aload_n X dL_law_1284 rfl,
  List.forall_mem_cons.mpr ⟨s_iload_n X dL_law_1285 rfl,
  List.forall_mem_cons.mpr ⟨s_iconst X dL_law_1286 (by decide),
  List.forall_mem_cons.mpr ⟨s_iadd X dL_law_1287,
  List.forall_mem_cons.mpr ⟨s_scrLd X hX hbl hbA dL_law_1288,
  List.forall_mem_cons.mpr ⟨s_callV X (hF_X5_talks hF) wco_X5_talks ml_RL_137 cl_5 wim_X5_talks wse_X5_talks win_FountainTalk ⟨by decide +kernel, by decide +kernel, by decide +kernel, by decide +kernel⟩ (by decide) dL_law_1289,
  List.forall_mem_cons.mpr ⟨s_aload_n X dL_law_1292 rfl,
  List.forall_mem_cons.mpr ⟨s_aload_n X dL_law_1293 rfl,
  List.forall_mem_cons.mpr ⟨s_iload_n X dL_law_1294 rfl,
  List.forall_mem_cons.mpr ⟨s_iconst X dL_law_1295 (by decide),
  List.forall_mem_cons.mpr ⟨s_iadd X dL_law_1296,
  List.forall_mem_cons.mpr ⟨s_scrLd X hX hbl hbA dL_law_1297,
  List.forall_mem_cons.mpr ⟨s_callV X (hF_X6_talks hF) wco_X6_talks ml_RL_140 cl_6 wim_X6_talks wse_X6_talks win_FountainTalkModel ⟨by decide +kernel, by decide +kernel, by decide +kernel, by decide +kernel⟩ (by decide) dL_law_1298,
  List.forall_mem_cons.mpr ⟨s_icmp_eq X dL_law_1301 (by decide),
  List.forall_mem_cons.mpr ⟨s_iconst X dL_law_1304 (by decide),
  List.forall_mem_cons.mpr ⟨s_zreturn rfl dL_law_1305,
  fun _ h => absurd h List.not_mem_nil⟩⟩⟩⟩⟩⟩⟩⟩⟩⟩⟩⟩⟩⟩⟩⟩⟩
set_option maxRecDepth 100000 in
theorem sdkL31 (hF : HF l D ca ad d F) (X : mX p s m args meth c R cL_law 4 RL (some .boolean) A D ca ad nc ns d) (hX : va_X (ad 1002) L xs s s.heap) (hbl : ad 1002 < s.heap.size) (hbA : ¬ A (ad 1002)) : ∀ q ∈ kL31 F L xs, mSnd (mAt p l e R s m args below meth c Q A D ca ad nc ns 4) (mJ p l e R s m args below meth c Q A D ca ad nc ns cL_law (some .boolean)) q.1 q.2 :=
  List.forall_mem_cons.mpr ⟨s_keep (s_aload_n X dL_law_1306 rfl),
  List.forall_mem_cons.mpr ⟨s_aload_n X dL_law_1307 rfl,
  List.forall_mem_cons.mpr ⟨s_iload_n X dL_law_1308 rfl,
  List.forall_mem_cons.mpr ⟨s_iconst X dL_law_1309 (by decide),
  List.forall_mem_cons.mpr ⟨s_iadd X dL_law_1310,
  List.forall_mem_cons.mpr ⟨s_scrLd X hX hbl hbA dL_law_1311,
  List.forall_mem_cons.mpr ⟨s_callV X (hF_X5_judge hF) wco_X5_judge ml_RL_141 cl_5 wim_X5_judge wse_X5_judge win_FountainTalk ⟨by decide +kernel, by decide +kernel, by decide +kernel, by decide +kernel⟩ (by decide) dL_law_1312,
  List.forall_mem_cons.mpr ⟨s_aload_n X dL_law_1315 rfl,
  List.forall_mem_cons.mpr ⟨s_aload_n X dL_law_1316 rfl,
  List.forall_mem_cons.mpr ⟨s_iload_n X dL_law_1317 rfl,
  List.forall_mem_cons.mpr ⟨s_iconst X dL_law_1318 (by decide),
  List.forall_mem_cons.mpr ⟨s_iadd X dL_law_1319,
  List.forall_mem_cons.mpr ⟨s_scrLd X hX hbl hbA dL_law_1320,
  List.forall_mem_cons.mpr ⟨s_callV X (hF_X6_judge hF) wco_X6_judge ml_RL_144 cl_6 wim_X6_judge wse_X6_judge win_FountainTalkModel ⟨by decide +kernel, by decide +kernel, by decide +kernel, by decide +kernel⟩ (by decide) dL_law_1321,
  List.forall_mem_cons.mpr ⟨s_icmp_eq X dL_law_1324 (by decide),
  List.forall_mem_cons.mpr ⟨s_iconst X dL_law_1327 (by decide),
  List.forall_mem_cons.mpr ⟨s_zreturn rfl dL_law_1328,
  fun _ h => absurd h List.not_mem_nil⟩⟩⟩⟩⟩⟩⟩⟩⟩⟩⟩⟩⟩⟩⟩⟩⟩
set_option maxRecDepth 100000 in
theorem sdkL32 (hF : HF l D ca ad d F) (X : mX p s m args meth c R cL_law 4 RL (some .boolean) A D ca ad nc ns d) (hX : va_X (ad 1002) L xs s s.heap) (hbl : ad 1002 < s.heap.size) (hbA : ¬ A (ad 1002)) : ∀ q ∈ kL32 F L xs, mSnd (mAt p l e R s m args below meth c Q A D ca ad nc ns 4) (mJ p l e R s m args below meth c Q A D ca ad nc ns cL_law (some .boolean)) q.1 q.2 :=
  List.forall_mem_cons.mpr ⟨s_keep (s_aload_n X dL_law_1329 rfl),
  List.forall_mem_cons.mpr ⟨s_callV X (hF_X5_image hF) wco_X5_image ml_RL_145 cl_5 wim_X5_image wse_X5_image win_FountainTalk ⟨by decide +kernel, by decide +kernel, by decide +kernel, by decide +kernel⟩ (by decide) dL_law_1330,
  List.forall_mem_cons.mpr ⟨s_aload_n X dL_law_1333 rfl,
  List.forall_mem_cons.mpr ⟨s_callV X (hF_X6_image hF) wco_X6_image ml_RL_149 cl_6 wim_X6_image wse_X6_image win_FountainTalkModel ⟨by decide +kernel, by decide +kernel, by decide +kernel, by decide +kernel⟩ (by decide) dL_law_1334,
  List.forall_mem_cons.mpr ⟨s_icmp_eq X dL_law_1337 (by decide),
  List.forall_mem_cons.mpr ⟨s_iconst X dL_law_1340 (by decide),
  List.forall_mem_cons.mpr ⟨s_zreturn rfl dL_law_1341,
  fun _ h => absurd h List.not_mem_nil⟩⟩⟩⟩⟩⟩⟩
set_option maxRecDepth 100000 in
theorem sdkL33 (hF : HF l D ca ad d F) (X : mX p s m args meth c R cL_law 4 RL (some .boolean) A D ca ad nc ns d) (hX : va_X (ad 1002) L xs s s.heap) (hbl : ad 1002 < s.heap.size) (hbA : ¬ A (ad 1002)) : ∀ q ∈ kL33 F L xs, mSnd (mAt p l e R s m args below meth c Q A D ca ad nc ns 4) (mJ p l e R s m args below meth c Q A D ca ad nc ns cL_law (some .boolean)) q.1 q.2 :=
  List.forall_mem_cons.mpr ⟨s_keep (s_aload_n X dL_law_1342 rfl),
  List.forall_mem_cons.mpr ⟨s_callV X (hF_X5_restore hF) wco_X5_restore ml_RL_150 cl_5 wim_X5_restore wse_X5_restore win_FountainTalk ⟨by decide +kernel, by decide +kernel, by decide +kernel, by decide +kernel⟩ (by decide) dL_law_1343,
  List.forall_mem_cons.mpr ⟨s_aload_n X dL_law_1346 rfl,
  List.forall_mem_cons.mpr ⟨s_callV X (hF_X6_restore hF) wco_X6_restore ml_RL_153 cl_6 wim_X6_restore wse_X6_restore win_FountainTalkModel ⟨by decide +kernel, by decide +kernel, by decide +kernel, by decide +kernel⟩ (by decide) dL_law_1347,
  List.forall_mem_cons.mpr ⟨s_icmp_eq X dL_law_1350 (by decide),
  List.forall_mem_cons.mpr ⟨s_iconst X dL_law_1353 (by decide),
  List.forall_mem_cons.mpr ⟨s_zreturn rfl dL_law_1354,
  fun _ h => absurd h List.not_mem_nil⟩⟩⟩⟩⟩⟩⟩
set_option maxRecDepth 100000 in
theorem sdkL34 (hF : HF l D ca ad d F) (X : mX p s m args meth c R cL_law 4 RL (some .boolean) A D ca ad nc ns d) (hX : va_X (ad 1002) L xs s s.heap) (hbl : ad 1002 < s.heap.size) (hbA : ¬ A (ad 1002)) : ∀ q ∈ kL34 F L xs, mSnd (mAt p l e R s m args below meth c Q A D ca ad nc ns 4) (mJ p l e R s m args below meth c Q A D ca ad nc ns cL_law (some .boolean)) q.1 q.2 :=
  List.forall_mem_cons.mpr ⟨s_keep (s_aload_n X dL_law_1355 rfl),
  List.forall_mem_cons.mpr ⟨s_aload_n X dL_law_1356 rfl,
  List.forall_mem_cons.mpr ⟨s_iload_n X dL_law_1357 rfl,
  List.forall_mem_cons.mpr ⟨s_iconst X dL_law_1358 (by decide),
  List.forall_mem_cons.mpr ⟨s_iadd X dL_law_1359,
  List.forall_mem_cons.mpr ⟨s_scrLd X hX hbl hbA dL_law_1360,
  List.forall_mem_cons.mpr ⟨s_callV X (hF_X5_tell hF) wco_X5_tell ml_RL_154 cl_5 wim_X5_tell wse_X5_tell win_FountainTalk ⟨by decide +kernel, by decide +kernel, by decide +kernel, by decide +kernel⟩ (by decide) dL_law_1361,
  List.forall_mem_cons.mpr ⟨s_aload_n X dL_law_1364 rfl,
  List.forall_mem_cons.mpr ⟨s_aload_n X dL_law_1365 rfl,
  List.forall_mem_cons.mpr ⟨s_iload_n X dL_law_1366 rfl,
  List.forall_mem_cons.mpr ⟨s_iconst X dL_law_1367 (by decide),
  List.forall_mem_cons.mpr ⟨s_iadd X dL_law_1368,
  List.forall_mem_cons.mpr ⟨s_scrLd X hX hbl hbA dL_law_1369,
  List.forall_mem_cons.mpr ⟨s_callV X (hF_X6_tell hF) wco_X6_tell ml_RL_157 cl_6 wim_X6_tell wse_X6_tell win_FountainTalkModel ⟨by decide +kernel, by decide +kernel, by decide +kernel, by decide +kernel⟩ (by decide) dL_law_1370,
  List.forall_mem_cons.mpr ⟨s_icmp_eq X dL_law_1373 (by decide),
  List.forall_mem_cons.mpr ⟨s_iconst X dL_law_1376 (by decide),
  List.forall_mem_cons.mpr ⟨s_zreturn rfl dL_law_1377,
  fun _ h => absurd h List.not_mem_nil⟩⟩⟩⟩⟩⟩⟩⟩⟩⟩⟩⟩⟩⟩⟩⟩⟩
set_option maxRecDepth 100000 in
theorem sdkL35 (hF : HF l D ca ad d F) (X : mX p s m args meth c R cL_law 4 RL (some .boolean) A D ca ad nc ns d) (hX : va_X (ad 1002) L xs s s.heap) (hbl : ad 1002 < s.heap.size) (hbA : ¬ A (ad 1002)) : ∀ q ∈ kL35 F L xs, mSnd (mAt p l e R s m args below meth c Q A D ca ad nc ns 4) (mJ p l e R s m args below meth c Q A D ca ad nc ns cL_law (some .boolean)) q.1 q.2 :=
  List.forall_mem_cons.mpr ⟨s_keep (s_aload_n X dL_law_1378 rfl),
  List.forall_mem_cons.mpr ⟨s_callV X (hF_X5_check hF) wco_X5_check ml_RL_158 cl_5 wim_X5_check wse_X5_check win_FountainTalk ⟨by decide +kernel, by decide +kernel, by decide +kernel, by decide +kernel⟩ (by decide) dL_law_1379,
  List.forall_mem_cons.mpr ⟨s_aload_n X dL_law_1382 rfl,
  List.forall_mem_cons.mpr ⟨s_callV X (hF_X6_check hF) wco_X6_check ml_RL_161 cl_6 wim_X6_check wse_X6_check win_FountainTalkModel ⟨by decide +kernel, by decide +kernel, by decide +kernel, by decide +kernel⟩ (by decide) dL_law_1383,
  List.forall_mem_cons.mpr ⟨s_icmp_eq X dL_law_1386 (by decide),
  List.forall_mem_cons.mpr ⟨s_iconst X dL_law_1389 (by decide),
  List.forall_mem_cons.mpr ⟨s_zreturn rfl dL_law_1390,
  fun _ h => absurd h List.not_mem_nil⟩⟩⟩⟩⟩⟩⟩
set_option maxRecDepth 100000 in
theorem sdkL36 (hF : HF l D ca ad d F) (X : mX p s m args meth c R cL_law 4 RL (some .boolean) A D ca ad nc ns d) (hX : va_X (ad 1002) L xs s s.heap) (hbl : ad 1002 < s.heap.size) (hbA : ¬ A (ad 1002)) : ∀ q ∈ kL36 F L xs, mSnd (mAt p l e R s m args below meth c Q A D ca ad nc ns 4) (mJ p l e R s m args below meth c Q A D ca ad nc ns cL_law (some .boolean)) q.1 q.2 :=
  List.forall_mem_cons.mpr ⟨s_keep (s_aload_n X dL_law_1391 rfl),
  List.forall_mem_cons.mpr ⟨s_aload_n X dL_law_1392 rfl,
  List.forall_mem_cons.mpr ⟨s_iload_n X dL_law_1393 rfl,
  List.forall_mem_cons.mpr ⟨s_iconst X dL_law_1394 (by decide),
  List.forall_mem_cons.mpr ⟨s_iadd X dL_law_1395,
  List.forall_mem_cons.mpr ⟨s_scrLd X hX hbl hbA dL_law_1396,
  List.forall_mem_cons.mpr ⟨s_callV X (hF_X5_count hF) wco_X5_count ml_RL_162 cl_5 wim_X5_count wse_X5_count win_FountainTalk ⟨by decide +kernel, by decide +kernel, by decide +kernel, by decide +kernel⟩ (by decide) dL_law_1397,
  List.forall_mem_cons.mpr ⟨s_aload_n X dL_law_1400 rfl,
  List.forall_mem_cons.mpr ⟨s_aload_n X dL_law_1401 rfl,
  List.forall_mem_cons.mpr ⟨s_iload_n X dL_law_1402 rfl,
  List.forall_mem_cons.mpr ⟨s_iconst X dL_law_1403 (by decide),
  List.forall_mem_cons.mpr ⟨s_iadd X dL_law_1404,
  List.forall_mem_cons.mpr ⟨s_scrLd X hX hbl hbA dL_law_1405,
  List.forall_mem_cons.mpr ⟨s_callV X (hF_X6_count hF) wco_X6_count ml_RL_165 cl_6 wim_X6_count wse_X6_count win_FountainTalkModel ⟨by decide +kernel, by decide +kernel, by decide +kernel, by decide +kernel⟩ (by decide) dL_law_1406,
  List.forall_mem_cons.mpr ⟨s_icmp_eq X dL_law_1409 (by decide),
  List.forall_mem_cons.mpr ⟨s_iconst X dL_law_1412 (by decide),
  List.forall_mem_cons.mpr ⟨s_zreturn rfl dL_law_1413,
  fun _ h => absurd h List.not_mem_nil⟩⟩⟩⟩⟩⟩⟩⟩⟩⟩⟩⟩⟩⟩⟩⟩⟩
set_option maxRecDepth 100000 in
theorem sdkL37 (hF : HF l D ca ad d F) (X : mX p s m args meth c R cL_law 4 RL (some .boolean) A D ca ad nc ns d) (hX : va_X (ad 1002) L xs s s.heap) (hbl : ad 1002 < s.heap.size) (hbA : ¬ A (ad 1002)) : ∀ q ∈ kL37 F L xs, mSnd (mAt p l e R s m args below meth c Q A D ca ad nc ns 4) (mJ p l e R s m args below meth c Q A D ca ad nc ns cL_law (some .boolean)) q.1 q.2 :=
  List.forall_mem_cons.mpr ⟨s_keep (s_aload_n X dL_law_1414 rfl),
  List.forall_mem_cons.mpr ⟨s_aload_n X dL_law_1415 rfl,
  List.forall_mem_cons.mpr ⟨s_iload_n X dL_law_1416 rfl,
  List.forall_mem_cons.mpr ⟨s_iconst X dL_law_1417 (by decide),
  List.forall_mem_cons.mpr ⟨s_iadd X dL_law_1418,
  List.forall_mem_cons.mpr ⟨s_scrLd X hX hbl hbA dL_law_1419,
  List.forall_mem_cons.mpr ⟨s_callV X (hF_X5_told hF) wco_X5_told ml_RL_166 cl_5 wim_X5_told wse_X5_told win_FountainTalk ⟨by decide +kernel, by decide +kernel, by decide +kernel, by decide +kernel⟩ (by decide) dL_law_1420,
  List.forall_mem_cons.mpr ⟨s_aload_n X dL_law_1423 rfl,
  List.forall_mem_cons.mpr ⟨s_aload_n X dL_law_1424 rfl,
  List.forall_mem_cons.mpr ⟨s_iload_n X dL_law_1425 rfl,
  List.forall_mem_cons.mpr ⟨s_iconst X dL_law_1426 (by decide),
  List.forall_mem_cons.mpr ⟨s_iadd X dL_law_1427,
  List.forall_mem_cons.mpr ⟨s_scrLd X hX hbl hbA dL_law_1428,
  List.forall_mem_cons.mpr ⟨s_callV X (hF_X6_told hF) wco_X6_told ml_RL_169 cl_6 wim_X6_told wse_X6_told win_FountainTalkModel ⟨by decide +kernel, by decide +kernel, by decide +kernel, by decide +kernel⟩ (by decide) dL_law_1429,
  List.forall_mem_cons.mpr ⟨s_icmp_eq X dL_law_1432 (by decide),
  List.forall_mem_cons.mpr ⟨s_iconst X dL_law_1435 (by decide),
  List.forall_mem_cons.mpr ⟨s_zreturn rfl dL_law_1436,
  fun _ h => absurd h List.not_mem_nil⟩⟩⟩⟩⟩⟩⟩⟩⟩⟩⟩⟩⟩⟩⟩⟩⟩
set_option maxRecDepth 100000 in
theorem sdkL38 (hF : HF l D ca ad d F) (X : mX p s m args meth c R cL_law 4 RL (some .boolean) A D ca ad nc ns d) (hX : va_X (ad 1002) L xs s s.heap) (hbl : ad 1002 < s.heap.size) (hbA : ¬ A (ad 1002)) : ∀ q ∈ kL38 F L xs, mSnd (mAt p l e R s m args below meth c Q A D ca ad nc ns 4) (mJ p l e R s m args below meth c Q A D ca ad nc ns cL_law (some .boolean)) q.1 q.2 :=
  List.forall_mem_cons.mpr ⟨s_keep (s_iinc X dL_law_1437 (by decide) (Nat.le_of_ble_eq_true rfl)),
  List.forall_mem_cons.mpr ⟨s_goto X dL_law_1440 (by decide),
  List.forall_mem_cons.mpr ⟨s_iconst X dL_law_1443 (by decide),
  List.forall_mem_cons.mpr ⟨s_zreturn rfl dL_law_1444,
  fun _ h => absurd h List.not_mem_nil⟩⟩⟩⟩
theorem sdkL (hF : HF l D ca ad d F) (X : mX p s m args meth c R cL_law 4 RL (some .boolean) A D ca ad nc ns d) (hX : va_X (ad 1002) L xs s s.heap) (hbl : ad 1002 < s.heap.size) (hbA : ¬ A (ad 1002)) : ∀ q ∈ kL F L xs, mSnd (mAt p l e R s m args below meth c Q A D ca ad nc ns 4) (mJ p l e R s m args below meth c Q A D ca ad nc ns cL_law (some .boolean)) q.1 q.2 :=
  List.forall_mem_append.mpr ⟨sdkL0 hF X hX hbl hbA, List.forall_mem_append.mpr ⟨sdkL1 hF X hX hbl hbA, List.forall_mem_append.mpr ⟨sdkL2 hF X hX hbl hbA, List.forall_mem_append.mpr ⟨sdkL3 hF X hX hbl hbA, List.forall_mem_append.mpr ⟨sdkL4 hF X hX hbl hbA, List.forall_mem_append.mpr ⟨sdkL5 hF X hX hbl hbA, List.forall_mem_append.mpr ⟨sdkL6 hF X hX hbl hbA, List.forall_mem_append.mpr ⟨sdkL7 hF X hX hbl hbA, List.forall_mem_append.mpr ⟨sdkL8 hF X hX hbl hbA, List.forall_mem_append.mpr ⟨sdkL9 hF X hX hbl hbA, List.forall_mem_append.mpr ⟨sdkL10 hF X hX hbl hbA, List.forall_mem_append.mpr ⟨sdkL11 hF X hX hbl hbA, List.forall_mem_append.mpr ⟨sdkL12 hF X hX hbl hbA, List.forall_mem_append.mpr ⟨sdkL13 hF X hX hbl hbA, List.forall_mem_append.mpr ⟨sdkL14 hF X hX hbl hbA, List.forall_mem_append.mpr ⟨sdkL15 hF X hX hbl hbA, List.forall_mem_append.mpr ⟨sdkL16 hF X hX hbl hbA, List.forall_mem_append.mpr ⟨sdkL17 hF X hX hbl hbA, List.forall_mem_append.mpr ⟨sdkL18 hF X hX hbl hbA, List.forall_mem_append.mpr ⟨sdkL19 hF X hX hbl hbA, List.forall_mem_append.mpr ⟨sdkL20 hF X hX hbl hbA, List.forall_mem_append.mpr ⟨sdkL21 hF X hX hbl hbA, List.forall_mem_append.mpr ⟨sdkL22 hF X hX hbl hbA, List.forall_mem_append.mpr ⟨sdkL23 hF X hX hbl hbA, List.forall_mem_append.mpr ⟨sdkL24 hF X hX hbl hbA, List.forall_mem_append.mpr ⟨sdkL25 hF X hX hbl hbA, List.forall_mem_append.mpr ⟨sdkL26 hF X hX hbl hbA, List.forall_mem_append.mpr ⟨sdkL27 hF X hX hbl hbA, List.forall_mem_append.mpr ⟨sdkL28 hF X hX hbl hbA, List.forall_mem_append.mpr ⟨sdkL29 hF X hX hbl hbA, List.forall_mem_append.mpr ⟨sdkL30 hF X hX hbl hbA, List.forall_mem_append.mpr ⟨sdkL31 hF X hX hbl hbA, List.forall_mem_append.mpr ⟨sdkL32 hF X hX hbl hbA, List.forall_mem_append.mpr ⟨sdkL33 hF X hX hbl hbA, List.forall_mem_append.mpr ⟨sdkL34 hF X hX hbl hbA, List.forall_mem_append.mpr ⟨sdkL35 hF X hX hbl hbA, List.forall_mem_append.mpr ⟨sdkL36 hF X hX hbl hbA, List.forall_mem_append.mpr ⟨sdkL37 hF X hX hbl hbA, sdkL38 hF X hX hbl hbA⟩⟩⟩⟩⟩⟩⟩⟩⟩⟩⟩⟩⟩⟩⟩⟩⟩⟩⟩⟩⟩⟩⟩⟩⟩⟩⟩⟩⟩⟩⟩⟩⟩⟩⟩⟩⟩⟩
end
theorem mmkL0 (F : Nat → List Value → MS → Option MR) (L : Nat) (xs : Nat → Int32) : ∀ q ∈ kL0 F L xs, mTail q.2 :=
  List.forall_mem_cons.mpr ⟨ta_oKeep (ta_oIload _ _),
  List.forall_mem_cons.mpr ⟨ta_oAload _ _,
  List.forall_mem_cons.mpr ⟨ta_oScrLen _ _,
  List.forall_mem_cons.mpr ⟨ta_oPush _ _,
  List.forall_mem_cons.mpr ⟨ta_oBin _ _,
  List.forall_mem_cons.mpr ⟨ta_oIc_gt _ _,
  List.forall_mem_cons.mpr ⟨ta_oAload _ _,
  List.forall_mem_cons.mpr ⟨ta_oIload _ _,
  List.forall_mem_cons.mpr ⟨ta_oScrLd _ _ _,
  List.forall_mem_cons.mpr ⟨ta_oPush _ _,
  List.forall_mem_cons.mpr ⟨ta_oBin _ _,
  List.forall_mem_cons.mpr ⟨ta_oSw _ _,
  fun _ h => absurd h List.not_mem_nil⟩⟩⟩⟩⟩⟩⟩⟩⟩⟩⟩⟩
theorem mmkL1 (F : Nat → List Value → MS → Option MR) (L : Nat) (xs : Nat → Int32) : ∀ q ∈ kL1 F L xs, mTail q.2 :=
  List.forall_mem_cons.mpr ⟨ta_oKeep (ta_oAload _ _),
  List.forall_mem_cons.mpr ⟨ta_oAload _ _,
  List.forall_mem_cons.mpr ⟨ta_oIload _ _,
  List.forall_mem_cons.mpr ⟨ta_oPush _ _,
  List.forall_mem_cons.mpr ⟨ta_oBin _ _,
  List.forall_mem_cons.mpr ⟨ta_oScrLd _ _ _,
  List.forall_mem_cons.mpr ⟨ta_oAload _ _,
  List.forall_mem_cons.mpr ⟨ta_oIload _ _,
  List.forall_mem_cons.mpr ⟨ta_oPush _ _,
  List.forall_mem_cons.mpr ⟨ta_oBin _ _,
  List.forall_mem_cons.mpr ⟨ta_oScrLd _ _ _,
  List.forall_mem_cons.mpr ⟨ta_oCallV _ _ _ _ _,
  List.forall_mem_cons.mpr ⟨ta_oAload _ _,
  List.forall_mem_cons.mpr ⟨ta_oAload _ _,
  List.forall_mem_cons.mpr ⟨ta_oIload _ _,
  List.forall_mem_cons.mpr ⟨ta_oPush _ _,
  List.forall_mem_cons.mpr ⟨ta_oBin _ _,
  List.forall_mem_cons.mpr ⟨ta_oScrLd _ _ _,
  List.forall_mem_cons.mpr ⟨ta_oAload _ _,
  List.forall_mem_cons.mpr ⟨ta_oIload _ _,
  List.forall_mem_cons.mpr ⟨ta_oPush _ _,
  List.forall_mem_cons.mpr ⟨ta_oBin _ _,
  List.forall_mem_cons.mpr ⟨ta_oScrLd _ _ _,
  List.forall_mem_cons.mpr ⟨ta_oCallV _ _ _ _ _,
  List.forall_mem_cons.mpr ⟨ta_oIc_eq _ _,
  List.forall_mem_cons.mpr ⟨ta_oPush _ _,
  List.forall_mem_cons.mpr ⟨ta_oZret,
  fun _ h => absurd h List.not_mem_nil⟩⟩⟩⟩⟩⟩⟩⟩⟩⟩⟩⟩⟩⟩⟩⟩⟩⟩⟩⟩⟩⟩⟩⟩⟩⟩⟩
theorem mmkL2 (F : Nat → List Value → MS → Option MR) (L : Nat) (xs : Nat → Int32) : ∀ q ∈ kL2 F L xs, mTail q.2 :=
  List.forall_mem_cons.mpr ⟨ta_oKeep (ta_oAload _ _),
  List.forall_mem_cons.mpr ⟨ta_oAload _ _,
  List.forall_mem_cons.mpr ⟨ta_oIload _ _,
  List.forall_mem_cons.mpr ⟨ta_oPush _ _,
  List.forall_mem_cons.mpr ⟨ta_oBin _ _,
  List.forall_mem_cons.mpr ⟨ta_oScrLd _ _ _,
  List.forall_mem_cons.mpr ⟨ta_oAload _ _,
  List.forall_mem_cons.mpr ⟨ta_oIload _ _,
  List.forall_mem_cons.mpr ⟨ta_oPush _ _,
  List.forall_mem_cons.mpr ⟨ta_oBin _ _,
  List.forall_mem_cons.mpr ⟨ta_oScrLd _ _ _,
  List.forall_mem_cons.mpr ⟨ta_oCallV _ _ _ _ _,
  List.forall_mem_cons.mpr ⟨ta_oAload _ _,
  List.forall_mem_cons.mpr ⟨ta_oAload _ _,
  List.forall_mem_cons.mpr ⟨ta_oIload _ _,
  List.forall_mem_cons.mpr ⟨ta_oPush _ _,
  List.forall_mem_cons.mpr ⟨ta_oBin _ _,
  List.forall_mem_cons.mpr ⟨ta_oScrLd _ _ _,
  List.forall_mem_cons.mpr ⟨ta_oAload _ _,
  List.forall_mem_cons.mpr ⟨ta_oIload _ _,
  List.forall_mem_cons.mpr ⟨ta_oPush _ _,
  List.forall_mem_cons.mpr ⟨ta_oBin _ _,
  List.forall_mem_cons.mpr ⟨ta_oScrLd _ _ _,
  List.forall_mem_cons.mpr ⟨ta_oCallV _ _ _ _ _,
  List.forall_mem_cons.mpr ⟨ta_oIc_eq _ _,
  List.forall_mem_cons.mpr ⟨ta_oPush _ _,
  List.forall_mem_cons.mpr ⟨ta_oZret,
  fun _ h => absurd h List.not_mem_nil⟩⟩⟩⟩⟩⟩⟩⟩⟩⟩⟩⟩⟩⟩⟩⟩⟩⟩⟩⟩⟩⟩⟩⟩⟩⟩⟩
theorem mmkL3 (F : Nat → List Value → MS → Option MR) (L : Nat) (xs : Nat → Int32) : ∀ q ∈ kL3 F L xs, mTail q.2 :=
  List.forall_mem_cons.mpr ⟨ta_oKeep (ta_oAload _ _),
  List.forall_mem_cons.mpr ⟨ta_oAload _ _,
  List.forall_mem_cons.mpr ⟨ta_oIload _ _,
  List.forall_mem_cons.mpr ⟨ta_oPush _ _,
  List.forall_mem_cons.mpr ⟨ta_oBin _ _,
  List.forall_mem_cons.mpr ⟨ta_oScrLd _ _ _,
  List.forall_mem_cons.mpr ⟨ta_oAload _ _,
  List.forall_mem_cons.mpr ⟨ta_oIload _ _,
  List.forall_mem_cons.mpr ⟨ta_oPush _ _,
  List.forall_mem_cons.mpr ⟨ta_oBin _ _,
  List.forall_mem_cons.mpr ⟨ta_oScrLd _ _ _,
  List.forall_mem_cons.mpr ⟨ta_oCallV _ _ _ _ _,
  List.forall_mem_cons.mpr ⟨ta_oAload _ _,
  List.forall_mem_cons.mpr ⟨ta_oAload _ _,
  List.forall_mem_cons.mpr ⟨ta_oIload _ _,
  List.forall_mem_cons.mpr ⟨ta_oPush _ _,
  List.forall_mem_cons.mpr ⟨ta_oBin _ _,
  List.forall_mem_cons.mpr ⟨ta_oScrLd _ _ _,
  List.forall_mem_cons.mpr ⟨ta_oAload _ _,
  List.forall_mem_cons.mpr ⟨ta_oIload _ _,
  List.forall_mem_cons.mpr ⟨ta_oPush _ _,
  List.forall_mem_cons.mpr ⟨ta_oBin _ _,
  List.forall_mem_cons.mpr ⟨ta_oScrLd _ _ _,
  List.forall_mem_cons.mpr ⟨ta_oCallV _ _ _ _ _,
  List.forall_mem_cons.mpr ⟨ta_oIc_eq _ _,
  List.forall_mem_cons.mpr ⟨ta_oPush _ _,
  List.forall_mem_cons.mpr ⟨ta_oZret,
  fun _ h => absurd h List.not_mem_nil⟩⟩⟩⟩⟩⟩⟩⟩⟩⟩⟩⟩⟩⟩⟩⟩⟩⟩⟩⟩⟩⟩⟩⟩⟩⟩⟩
theorem mmkL4 (F : Nat → List Value → MS → Option MR) (L : Nat) (xs : Nat → Int32) : ∀ q ∈ kL4 F L xs, mTail q.2 :=
  List.forall_mem_cons.mpr ⟨ta_oKeep (ta_oAload _ _),
  List.forall_mem_cons.mpr ⟨ta_oAload _ _,
  List.forall_mem_cons.mpr ⟨ta_oIload _ _,
  List.forall_mem_cons.mpr ⟨ta_oPush _ _,
  List.forall_mem_cons.mpr ⟨ta_oBin _ _,
  List.forall_mem_cons.mpr ⟨ta_oScrLd _ _ _,
  List.forall_mem_cons.mpr ⟨ta_oAload _ _,
  List.forall_mem_cons.mpr ⟨ta_oIload _ _,
  List.forall_mem_cons.mpr ⟨ta_oPush _ _,
  List.forall_mem_cons.mpr ⟨ta_oBin _ _,
  List.forall_mem_cons.mpr ⟨ta_oScrLd _ _ _,
  List.forall_mem_cons.mpr ⟨ta_oCallV _ _ _ _ _,
  List.forall_mem_cons.mpr ⟨ta_oAload _ _,
  List.forall_mem_cons.mpr ⟨ta_oAload _ _,
  List.forall_mem_cons.mpr ⟨ta_oIload _ _,
  List.forall_mem_cons.mpr ⟨ta_oPush _ _,
  List.forall_mem_cons.mpr ⟨ta_oBin _ _,
  List.forall_mem_cons.mpr ⟨ta_oScrLd _ _ _,
  List.forall_mem_cons.mpr ⟨ta_oAload _ _,
  List.forall_mem_cons.mpr ⟨ta_oIload _ _,
  List.forall_mem_cons.mpr ⟨ta_oPush _ _,
  List.forall_mem_cons.mpr ⟨ta_oBin _ _,
  List.forall_mem_cons.mpr ⟨ta_oScrLd _ _ _,
  List.forall_mem_cons.mpr ⟨ta_oCallV _ _ _ _ _,
  List.forall_mem_cons.mpr ⟨ta_oIc_eq _ _,
  List.forall_mem_cons.mpr ⟨ta_oPush _ _,
  List.forall_mem_cons.mpr ⟨ta_oZret,
  fun _ h => absurd h List.not_mem_nil⟩⟩⟩⟩⟩⟩⟩⟩⟩⟩⟩⟩⟩⟩⟩⟩⟩⟩⟩⟩⟩⟩⟩⟩⟩⟩⟩
theorem mmkL5 (F : Nat → List Value → MS → Option MR) (L : Nat) (xs : Nat → Int32) : ∀ q ∈ kL5 F L xs, mTail q.2 :=
  List.forall_mem_cons.mpr ⟨ta_oKeep (ta_oAload _ _),
  List.forall_mem_cons.mpr ⟨ta_oAload _ _,
  List.forall_mem_cons.mpr ⟨ta_oIload _ _,
  List.forall_mem_cons.mpr ⟨ta_oPush _ _,
  List.forall_mem_cons.mpr ⟨ta_oBin _ _,
  List.forall_mem_cons.mpr ⟨ta_oScrLd _ _ _,
  List.forall_mem_cons.mpr ⟨ta_oAload _ _,
  List.forall_mem_cons.mpr ⟨ta_oIload _ _,
  List.forall_mem_cons.mpr ⟨ta_oPush _ _,
  List.forall_mem_cons.mpr ⟨ta_oBin _ _,
  List.forall_mem_cons.mpr ⟨ta_oScrLd _ _ _,
  List.forall_mem_cons.mpr ⟨ta_oCallV _ _ _ _ _,
  List.forall_mem_cons.mpr ⟨ta_oAload _ _,
  List.forall_mem_cons.mpr ⟨ta_oAload _ _,
  List.forall_mem_cons.mpr ⟨ta_oIload _ _,
  List.forall_mem_cons.mpr ⟨ta_oPush _ _,
  List.forall_mem_cons.mpr ⟨ta_oBin _ _,
  List.forall_mem_cons.mpr ⟨ta_oScrLd _ _ _,
  List.forall_mem_cons.mpr ⟨ta_oAload _ _,
  List.forall_mem_cons.mpr ⟨ta_oIload _ _,
  List.forall_mem_cons.mpr ⟨ta_oPush _ _,
  List.forall_mem_cons.mpr ⟨ta_oBin _ _,
  List.forall_mem_cons.mpr ⟨ta_oScrLd _ _ _,
  List.forall_mem_cons.mpr ⟨ta_oCallV _ _ _ _ _,
  List.forall_mem_cons.mpr ⟨ta_oIc_eq _ _,
  List.forall_mem_cons.mpr ⟨ta_oPush _ _,
  List.forall_mem_cons.mpr ⟨ta_oZret,
  fun _ h => absurd h List.not_mem_nil⟩⟩⟩⟩⟩⟩⟩⟩⟩⟩⟩⟩⟩⟩⟩⟩⟩⟩⟩⟩⟩⟩⟩⟩⟩⟩⟩
theorem mmkL6 (F : Nat → List Value → MS → Option MR) (L : Nat) (xs : Nat → Int32) : ∀ q ∈ kL6 F L xs, mTail q.2 :=
  List.forall_mem_cons.mpr ⟨ta_oKeep (ta_oAload _ _),
  List.forall_mem_cons.mpr ⟨ta_oAload _ _,
  List.forall_mem_cons.mpr ⟨ta_oIload _ _,
  List.forall_mem_cons.mpr ⟨ta_oPush _ _,
  List.forall_mem_cons.mpr ⟨ta_oBin _ _,
  List.forall_mem_cons.mpr ⟨ta_oScrLd _ _ _,
  List.forall_mem_cons.mpr ⟨ta_oAload _ _,
  List.forall_mem_cons.mpr ⟨ta_oIload _ _,
  List.forall_mem_cons.mpr ⟨ta_oPush _ _,
  List.forall_mem_cons.mpr ⟨ta_oBin _ _,
  List.forall_mem_cons.mpr ⟨ta_oScrLd _ _ _,
  List.forall_mem_cons.mpr ⟨ta_oCallV _ _ _ _ _,
  List.forall_mem_cons.mpr ⟨ta_oAload _ _,
  List.forall_mem_cons.mpr ⟨ta_oAload _ _,
  List.forall_mem_cons.mpr ⟨ta_oIload _ _,
  List.forall_mem_cons.mpr ⟨ta_oPush _ _,
  List.forall_mem_cons.mpr ⟨ta_oBin _ _,
  List.forall_mem_cons.mpr ⟨ta_oScrLd _ _ _,
  List.forall_mem_cons.mpr ⟨ta_oAload _ _,
  List.forall_mem_cons.mpr ⟨ta_oIload _ _,
  List.forall_mem_cons.mpr ⟨ta_oPush _ _,
  List.forall_mem_cons.mpr ⟨ta_oBin _ _,
  List.forall_mem_cons.mpr ⟨ta_oScrLd _ _ _,
  List.forall_mem_cons.mpr ⟨ta_oCallV _ _ _ _ _,
  List.forall_mem_cons.mpr ⟨ta_oIc_eq _ _,
  List.forall_mem_cons.mpr ⟨ta_oPush _ _,
  List.forall_mem_cons.mpr ⟨ta_oZret,
  fun _ h => absurd h List.not_mem_nil⟩⟩⟩⟩⟩⟩⟩⟩⟩⟩⟩⟩⟩⟩⟩⟩⟩⟩⟩⟩⟩⟩⟩⟩⟩⟩⟩
theorem mmkL7 (F : Nat → List Value → MS → Option MR) (L : Nat) (xs : Nat → Int32) : ∀ q ∈ kL7 F L xs, mTail q.2 :=
  List.forall_mem_cons.mpr ⟨ta_oKeep (ta_oAload _ _),
  List.forall_mem_cons.mpr ⟨ta_oAload _ _,
  List.forall_mem_cons.mpr ⟨ta_oIload _ _,
  List.forall_mem_cons.mpr ⟨ta_oPush _ _,
  List.forall_mem_cons.mpr ⟨ta_oBin _ _,
  List.forall_mem_cons.mpr ⟨ta_oScrLd _ _ _,
  List.forall_mem_cons.mpr ⟨ta_oAload _ _,
  List.forall_mem_cons.mpr ⟨ta_oIload _ _,
  List.forall_mem_cons.mpr ⟨ta_oPush _ _,
  List.forall_mem_cons.mpr ⟨ta_oBin _ _,
  List.forall_mem_cons.mpr ⟨ta_oScrLd _ _ _,
  List.forall_mem_cons.mpr ⟨ta_oAload _ _,
  List.forall_mem_cons.mpr ⟨ta_oIload _ _,
  List.forall_mem_cons.mpr ⟨ta_oPush _ _,
  List.forall_mem_cons.mpr ⟨ta_oBin _ _,
  List.forall_mem_cons.mpr ⟨ta_oScrLd _ _ _,
  List.forall_mem_cons.mpr ⟨ta_oCallV _ _ _ _ _,
  List.forall_mem_cons.mpr ⟨ta_oAload _ _,
  List.forall_mem_cons.mpr ⟨ta_oAload _ _,
  List.forall_mem_cons.mpr ⟨ta_oIload _ _,
  List.forall_mem_cons.mpr ⟨ta_oPush _ _,
  List.forall_mem_cons.mpr ⟨ta_oBin _ _,
  List.forall_mem_cons.mpr ⟨ta_oScrLd _ _ _,
  List.forall_mem_cons.mpr ⟨ta_oAload _ _,
  List.forall_mem_cons.mpr ⟨ta_oIload _ _,
  List.forall_mem_cons.mpr ⟨ta_oPush _ _,
  List.forall_mem_cons.mpr ⟨ta_oBin _ _,
  List.forall_mem_cons.mpr ⟨ta_oScrLd _ _ _,
  List.forall_mem_cons.mpr ⟨ta_oAload _ _,
  List.forall_mem_cons.mpr ⟨ta_oIload _ _,
  List.forall_mem_cons.mpr ⟨ta_oPush _ _,
  List.forall_mem_cons.mpr ⟨ta_oBin _ _,
  List.forall_mem_cons.mpr ⟨ta_oScrLd _ _ _,
  List.forall_mem_cons.mpr ⟨ta_oCallV _ _ _ _ _,
  List.forall_mem_cons.mpr ⟨ta_oIc_eq _ _,
  List.forall_mem_cons.mpr ⟨ta_oPush _ _,
  List.forall_mem_cons.mpr ⟨ta_oZret,
  fun _ h => absurd h List.not_mem_nil⟩⟩⟩⟩⟩⟩⟩⟩⟩⟩⟩⟩⟩⟩⟩⟩⟩⟩⟩⟩⟩⟩⟩⟩⟩⟩⟩⟩⟩⟩⟩⟩⟩⟩⟩⟩⟩
theorem mmkL8 (F : Nat → List Value → MS → Option MR) (L : Nat) (xs : Nat → Int32) : ∀ q ∈ kL8 F L xs, mTail q.2 :=
  List.forall_mem_cons.mpr ⟨ta_oKeep (ta_oAload _ _),
  List.forall_mem_cons.mpr ⟨ta_oAload _ _,
  List.forall_mem_cons.mpr ⟨ta_oIload _ _,
  List.forall_mem_cons.mpr ⟨ta_oPush _ _,
  List.forall_mem_cons.mpr ⟨ta_oBin _ _,
  List.forall_mem_cons.mpr ⟨ta_oScrLd _ _ _,
  List.forall_mem_cons.mpr ⟨ta_oAload _ _,
  List.forall_mem_cons.mpr ⟨ta_oIload _ _,
  List.forall_mem_cons.mpr ⟨ta_oPush _ _,
  List.forall_mem_cons.mpr ⟨ta_oBin _ _,
  List.forall_mem_cons.mpr ⟨ta_oScrLd _ _ _,
  List.forall_mem_cons.mpr ⟨ta_oCallV _ _ _ _ _,
  List.forall_mem_cons.mpr ⟨ta_oAload _ _,
  List.forall_mem_cons.mpr ⟨ta_oAload _ _,
  List.forall_mem_cons.mpr ⟨ta_oIload _ _,
  List.forall_mem_cons.mpr ⟨ta_oPush _ _,
  List.forall_mem_cons.mpr ⟨ta_oBin _ _,
  List.forall_mem_cons.mpr ⟨ta_oScrLd _ _ _,
  List.forall_mem_cons.mpr ⟨ta_oAload _ _,
  List.forall_mem_cons.mpr ⟨ta_oIload _ _,
  List.forall_mem_cons.mpr ⟨ta_oPush _ _,
  List.forall_mem_cons.mpr ⟨ta_oBin _ _,
  List.forall_mem_cons.mpr ⟨ta_oScrLd _ _ _,
  List.forall_mem_cons.mpr ⟨ta_oCallV _ _ _ _ _,
  List.forall_mem_cons.mpr ⟨ta_oIc_eq _ _,
  List.forall_mem_cons.mpr ⟨ta_oPush _ _,
  List.forall_mem_cons.mpr ⟨ta_oZret,
  fun _ h => absurd h List.not_mem_nil⟩⟩⟩⟩⟩⟩⟩⟩⟩⟩⟩⟩⟩⟩⟩⟩⟩⟩⟩⟩⟩⟩⟩⟩⟩⟩⟩
theorem mmkL9 (F : Nat → List Value → MS → Option MR) (L : Nat) (xs : Nat → Int32) : ∀ q ∈ kL9 F L xs, mTail q.2 :=
  List.forall_mem_cons.mpr ⟨ta_oKeep (ta_oAload _ _),
  List.forall_mem_cons.mpr ⟨ta_oAload _ _,
  List.forall_mem_cons.mpr ⟨ta_oIload _ _,
  List.forall_mem_cons.mpr ⟨ta_oPush _ _,
  List.forall_mem_cons.mpr ⟨ta_oBin _ _,
  List.forall_mem_cons.mpr ⟨ta_oScrLd _ _ _,
  List.forall_mem_cons.mpr ⟨ta_oAload _ _,
  List.forall_mem_cons.mpr ⟨ta_oIload _ _,
  List.forall_mem_cons.mpr ⟨ta_oPush _ _,
  List.forall_mem_cons.mpr ⟨ta_oBin _ _,
  List.forall_mem_cons.mpr ⟨ta_oScrLd _ _ _,
  List.forall_mem_cons.mpr ⟨ta_oCallV _ _ _ _ _,
  List.forall_mem_cons.mpr ⟨ta_oAload _ _,
  List.forall_mem_cons.mpr ⟨ta_oAload _ _,
  List.forall_mem_cons.mpr ⟨ta_oIload _ _,
  List.forall_mem_cons.mpr ⟨ta_oPush _ _,
  List.forall_mem_cons.mpr ⟨ta_oBin _ _,
  List.forall_mem_cons.mpr ⟨ta_oScrLd _ _ _,
  List.forall_mem_cons.mpr ⟨ta_oAload _ _,
  List.forall_mem_cons.mpr ⟨ta_oIload _ _,
  List.forall_mem_cons.mpr ⟨ta_oPush _ _,
  List.forall_mem_cons.mpr ⟨ta_oBin _ _,
  List.forall_mem_cons.mpr ⟨ta_oScrLd _ _ _,
  List.forall_mem_cons.mpr ⟨ta_oCallV _ _ _ _ _,
  List.forall_mem_cons.mpr ⟨ta_oIc_eq _ _,
  List.forall_mem_cons.mpr ⟨ta_oPush _ _,
  List.forall_mem_cons.mpr ⟨ta_oZret,
  fun _ h => absurd h List.not_mem_nil⟩⟩⟩⟩⟩⟩⟩⟩⟩⟩⟩⟩⟩⟩⟩⟩⟩⟩⟩⟩⟩⟩⟩⟩⟩⟩⟩
theorem mmkL10 (F : Nat → List Value → MS → Option MR) (L : Nat) (xs : Nat → Int32) : ∀ q ∈ kL10 F L xs, mTail q.2 :=
  List.forall_mem_cons.mpr ⟨ta_oKeep (ta_oAload _ _),
  List.forall_mem_cons.mpr ⟨ta_oAload _ _,
  List.forall_mem_cons.mpr ⟨ta_oIload _ _,
  List.forall_mem_cons.mpr ⟨ta_oPush _ _,
  List.forall_mem_cons.mpr ⟨ta_oBin _ _,
  List.forall_mem_cons.mpr ⟨ta_oScrLd _ _ _,
  List.forall_mem_cons.mpr ⟨ta_oCallV _ _ _ _ _,
  List.forall_mem_cons.mpr ⟨ta_oAload _ _,
  List.forall_mem_cons.mpr ⟨ta_oAload _ _,
  List.forall_mem_cons.mpr ⟨ta_oIload _ _,
  List.forall_mem_cons.mpr ⟨ta_oPush _ _,
  List.forall_mem_cons.mpr ⟨ta_oBin _ _,
  List.forall_mem_cons.mpr ⟨ta_oScrLd _ _ _,
  List.forall_mem_cons.mpr ⟨ta_oCallV _ _ _ _ _,
  List.forall_mem_cons.mpr ⟨ta_oIc_eq _ _,
  List.forall_mem_cons.mpr ⟨ta_oPush _ _,
  List.forall_mem_cons.mpr ⟨ta_oZret,
  fun _ h => absurd h List.not_mem_nil⟩⟩⟩⟩⟩⟩⟩⟩⟩⟩⟩⟩⟩⟩⟩⟩⟩
theorem mmkL11 (F : Nat → List Value → MS → Option MR) (L : Nat) (xs : Nat → Int32) : ∀ q ∈ kL11 F L xs, mTail q.2 :=
  List.forall_mem_cons.mpr ⟨ta_oKeep (ta_oAload _ _),
  List.forall_mem_cons.mpr ⟨ta_oAload _ _,
  List.forall_mem_cons.mpr ⟨ta_oIload _ _,
  List.forall_mem_cons.mpr ⟨ta_oPush _ _,
  List.forall_mem_cons.mpr ⟨ta_oBin _ _,
  List.forall_mem_cons.mpr ⟨ta_oScrLd _ _ _,
  List.forall_mem_cons.mpr ⟨ta_oI2l _,
  List.forall_mem_cons.mpr ⟨ta_oPush _ _,
  List.forall_mem_cons.mpr ⟨ta_oLsh _ _,
  List.forall_mem_cons.mpr ⟨ta_oAload _ _,
  List.forall_mem_cons.mpr ⟨ta_oIload _ _,
  List.forall_mem_cons.mpr ⟨ta_oPush _ _,
  List.forall_mem_cons.mpr ⟨ta_oBin _ _,
  List.forall_mem_cons.mpr ⟨ta_oScrLd _ _ _,
  List.forall_mem_cons.mpr ⟨ta_oI2l _,
  List.forall_mem_cons.mpr ⟨ta_oLpush _ _,
  List.forall_mem_cons.mpr ⟨ta_oLbin _ _,
  List.forall_mem_cons.mpr ⟨ta_oLbin _ _,
  List.forall_mem_cons.mpr ⟨ta_oAload _ _,
  List.forall_mem_cons.mpr ⟨ta_oIload _ _,
  List.forall_mem_cons.mpr ⟨ta_oPush _ _,
  List.forall_mem_cons.mpr ⟨ta_oBin _ _,
  List.forall_mem_cons.mpr ⟨ta_oScrLd _ _ _,
  List.forall_mem_cons.mpr ⟨ta_oCallV _ _ _ _ _,
  List.forall_mem_cons.mpr ⟨ta_oAload _ _,
  List.forall_mem_cons.mpr ⟨ta_oAload _ _,
  List.forall_mem_cons.mpr ⟨ta_oIload _ _,
  List.forall_mem_cons.mpr ⟨ta_oPush _ _,
  List.forall_mem_cons.mpr ⟨ta_oBin _ _,
  List.forall_mem_cons.mpr ⟨ta_oScrLd _ _ _,
  List.forall_mem_cons.mpr ⟨ta_oI2l _,
  List.forall_mem_cons.mpr ⟨ta_oPush _ _,
  List.forall_mem_cons.mpr ⟨ta_oLsh _ _,
  List.forall_mem_cons.mpr ⟨ta_oAload _ _,
  List.forall_mem_cons.mpr ⟨ta_oIload _ _,
  List.forall_mem_cons.mpr ⟨ta_oPush _ _,
  List.forall_mem_cons.mpr ⟨ta_oBin _ _,
  List.forall_mem_cons.mpr ⟨ta_oScrLd _ _ _,
  List.forall_mem_cons.mpr ⟨ta_oI2l _,
  List.forall_mem_cons.mpr ⟨ta_oLpush _ _,
  List.forall_mem_cons.mpr ⟨ta_oLbin _ _,
  List.forall_mem_cons.mpr ⟨ta_oLbin _ _,
  List.forall_mem_cons.mpr ⟨ta_oAload _ _,
  List.forall_mem_cons.mpr ⟨ta_oIload _ _,
  List.forall_mem_cons.mpr ⟨ta_oPush _ _,
  List.forall_mem_cons.mpr ⟨ta_oBin _ _,
  List.forall_mem_cons.mpr ⟨ta_oScrLd _ _ _,
  List.forall_mem_cons.mpr ⟨ta_oCallV _ _ _ _ _,
  List.forall_mem_cons.mpr ⟨ta_oIc_eq _ _,
  List.forall_mem_cons.mpr ⟨ta_oPush _ _,
  List.forall_mem_cons.mpr ⟨ta_oZret,
  fun _ h => absurd h List.not_mem_nil⟩⟩⟩⟩⟩⟩⟩⟩⟩⟩⟩⟩⟩⟩⟩⟩⟩⟩⟩⟩⟩⟩⟩⟩⟩⟩⟩⟩⟩⟩⟩⟩⟩⟩⟩⟩⟩⟩⟩⟩⟩⟩⟩⟩⟩⟩⟩⟩⟩⟩⟩
theorem mmkL12 (F : Nat → List Value → MS → Option MR) (L : Nat) (xs : Nat → Int32) : ∀ q ∈ kL12 F L xs, mTail q.2 :=
  List.forall_mem_cons.mpr ⟨ta_oKeep (ta_oAload _ _),
  List.forall_mem_cons.mpr ⟨ta_oAload _ _,
  List.forall_mem_cons.mpr ⟨ta_oIload _ _,
  List.forall_mem_cons.mpr ⟨ta_oPush _ _,
  List.forall_mem_cons.mpr ⟨ta_oBin _ _,
  List.forall_mem_cons.mpr ⟨ta_oScrLd _ _ _,
  List.forall_mem_cons.mpr ⟨ta_oCallV _ _ _ _ _,
  List.forall_mem_cons.mpr ⟨ta_oAload _ _,
  List.forall_mem_cons.mpr ⟨ta_oAload _ _,
  List.forall_mem_cons.mpr ⟨ta_oIload _ _,
  List.forall_mem_cons.mpr ⟨ta_oPush _ _,
  List.forall_mem_cons.mpr ⟨ta_oBin _ _,
  List.forall_mem_cons.mpr ⟨ta_oScrLd _ _ _,
  List.forall_mem_cons.mpr ⟨ta_oCallV _ _ _ _ _,
  List.forall_mem_cons.mpr ⟨ta_oIc_eq _ _,
  List.forall_mem_cons.mpr ⟨ta_oPush _ _,
  List.forall_mem_cons.mpr ⟨ta_oZret,
  fun _ h => absurd h List.not_mem_nil⟩⟩⟩⟩⟩⟩⟩⟩⟩⟩⟩⟩⟩⟩⟩⟩⟩
theorem mmkL13 (F : Nat → List Value → MS → Option MR) (L : Nat) (xs : Nat → Int32) : ∀ q ∈ kL13 F L xs, mTail q.2 :=
  List.forall_mem_cons.mpr ⟨ta_oKeep (ta_oAload _ _),
  List.forall_mem_cons.mpr ⟨ta_oAload _ _,
  List.forall_mem_cons.mpr ⟨ta_oIload _ _,
  List.forall_mem_cons.mpr ⟨ta_oPush _ _,
  List.forall_mem_cons.mpr ⟨ta_oBin _ _,
  List.forall_mem_cons.mpr ⟨ta_oScrLd _ _ _,
  List.forall_mem_cons.mpr ⟨ta_oCallV _ _ _ _ _,
  List.forall_mem_cons.mpr ⟨ta_oAload _ _,
  List.forall_mem_cons.mpr ⟨ta_oAload _ _,
  List.forall_mem_cons.mpr ⟨ta_oIload _ _,
  List.forall_mem_cons.mpr ⟨ta_oPush _ _,
  List.forall_mem_cons.mpr ⟨ta_oBin _ _,
  List.forall_mem_cons.mpr ⟨ta_oScrLd _ _ _,
  List.forall_mem_cons.mpr ⟨ta_oCallV _ _ _ _ _,
  List.forall_mem_cons.mpr ⟨ta_oIc_eq _ _,
  List.forall_mem_cons.mpr ⟨ta_oPush _ _,
  List.forall_mem_cons.mpr ⟨ta_oZret,
  fun _ h => absurd h List.not_mem_nil⟩⟩⟩⟩⟩⟩⟩⟩⟩⟩⟩⟩⟩⟩⟩⟩⟩
theorem mmkL14 (F : Nat → List Value → MS → Option MR) (L : Nat) (xs : Nat → Int32) : ∀ q ∈ kL14 F L xs, mTail q.2 :=
  List.forall_mem_cons.mpr ⟨ta_oKeep (ta_oAload _ _),
  List.forall_mem_cons.mpr ⟨ta_oAload _ _,
  List.forall_mem_cons.mpr ⟨ta_oIload _ _,
  List.forall_mem_cons.mpr ⟨ta_oPush _ _,
  List.forall_mem_cons.mpr ⟨ta_oBin _ _,
  List.forall_mem_cons.mpr ⟨ta_oScrLd _ _ _,
  List.forall_mem_cons.mpr ⟨ta_oAload _ _,
  List.forall_mem_cons.mpr ⟨ta_oIload _ _,
  List.forall_mem_cons.mpr ⟨ta_oPush _ _,
  List.forall_mem_cons.mpr ⟨ta_oBin _ _,
  List.forall_mem_cons.mpr ⟨ta_oScrLd _ _ _,
  List.forall_mem_cons.mpr ⟨ta_oAload _ _,
  List.forall_mem_cons.mpr ⟨ta_oIload _ _,
  List.forall_mem_cons.mpr ⟨ta_oPush _ _,
  List.forall_mem_cons.mpr ⟨ta_oBin _ _,
  List.forall_mem_cons.mpr ⟨ta_oScrLd _ _ _,
  List.forall_mem_cons.mpr ⟨ta_oAload _ _,
  List.forall_mem_cons.mpr ⟨ta_oIload _ _,
  List.forall_mem_cons.mpr ⟨ta_oPush _ _,
  List.forall_mem_cons.mpr ⟨ta_oBin _ _,
  List.forall_mem_cons.mpr ⟨ta_oScrLd _ _ _,
  List.forall_mem_cons.mpr ⟨ta_oCallV _ _ _ _ _,
  List.forall_mem_cons.mpr ⟨ta_oAload _ _,
  List.forall_mem_cons.mpr ⟨ta_oAload _ _,
  List.forall_mem_cons.mpr ⟨ta_oIload _ _,
  List.forall_mem_cons.mpr ⟨ta_oPush _ _,
  List.forall_mem_cons.mpr ⟨ta_oBin _ _,
  List.forall_mem_cons.mpr ⟨ta_oScrLd _ _ _,
  List.forall_mem_cons.mpr ⟨ta_oAload _ _,
  List.forall_mem_cons.mpr ⟨ta_oIload _ _,
  List.forall_mem_cons.mpr ⟨ta_oPush _ _,
  List.forall_mem_cons.mpr ⟨ta_oBin _ _,
  List.forall_mem_cons.mpr ⟨ta_oScrLd _ _ _,
  List.forall_mem_cons.mpr ⟨ta_oAload _ _,
  List.forall_mem_cons.mpr ⟨ta_oIload _ _,
  List.forall_mem_cons.mpr ⟨ta_oPush _ _,
  List.forall_mem_cons.mpr ⟨ta_oBin _ _,
  List.forall_mem_cons.mpr ⟨ta_oScrLd _ _ _,
  List.forall_mem_cons.mpr ⟨ta_oAload _ _,
  List.forall_mem_cons.mpr ⟨ta_oIload _ _,
  List.forall_mem_cons.mpr ⟨ta_oPush _ _,
  List.forall_mem_cons.mpr ⟨ta_oBin _ _,
  List.forall_mem_cons.mpr ⟨ta_oScrLd _ _ _,
  List.forall_mem_cons.mpr ⟨ta_oCallV _ _ _ _ _,
  List.forall_mem_cons.mpr ⟨ta_oIc_eq _ _,
  List.forall_mem_cons.mpr ⟨ta_oPush _ _,
  List.forall_mem_cons.mpr ⟨ta_oZret,
  fun _ h => absurd h List.not_mem_nil⟩⟩⟩⟩⟩⟩⟩⟩⟩⟩⟩⟩⟩⟩⟩⟩⟩⟩⟩⟩⟩⟩⟩⟩⟩⟩⟩⟩⟩⟩⟩⟩⟩⟩⟩⟩⟩⟩⟩⟩⟩⟩⟩⟩⟩⟩⟩
theorem mmkL15 (F : Nat → List Value → MS → Option MR) (L : Nat) (xs : Nat → Int32) : ∀ q ∈ kL15 F L xs, mTail q.2 :=
  List.forall_mem_cons.mpr ⟨ta_oKeep (ta_oAload _ _),
  List.forall_mem_cons.mpr ⟨ta_oAload _ _,
  List.forall_mem_cons.mpr ⟨ta_oIload _ _,
  List.forall_mem_cons.mpr ⟨ta_oPush _ _,
  List.forall_mem_cons.mpr ⟨ta_oBin _ _,
  List.forall_mem_cons.mpr ⟨ta_oScrLd _ _ _,
  List.forall_mem_cons.mpr ⟨ta_oAload _ _,
  List.forall_mem_cons.mpr ⟨ta_oIload _ _,
  List.forall_mem_cons.mpr ⟨ta_oPush _ _,
  List.forall_mem_cons.mpr ⟨ta_oBin _ _,
  List.forall_mem_cons.mpr ⟨ta_oScrLd _ _ _,
  List.forall_mem_cons.mpr ⟨ta_oCallV _ _ _ _ _,
  List.forall_mem_cons.mpr ⟨ta_oAload _ _,
  List.forall_mem_cons.mpr ⟨ta_oAload _ _,
  List.forall_mem_cons.mpr ⟨ta_oIload _ _,
  List.forall_mem_cons.mpr ⟨ta_oPush _ _,
  List.forall_mem_cons.mpr ⟨ta_oBin _ _,
  List.forall_mem_cons.mpr ⟨ta_oScrLd _ _ _,
  List.forall_mem_cons.mpr ⟨ta_oAload _ _,
  List.forall_mem_cons.mpr ⟨ta_oIload _ _,
  List.forall_mem_cons.mpr ⟨ta_oPush _ _,
  List.forall_mem_cons.mpr ⟨ta_oBin _ _,
  List.forall_mem_cons.mpr ⟨ta_oScrLd _ _ _,
  List.forall_mem_cons.mpr ⟨ta_oCallV _ _ _ _ _,
  List.forall_mem_cons.mpr ⟨ta_oIc_eq _ _,
  List.forall_mem_cons.mpr ⟨ta_oPush _ _,
  List.forall_mem_cons.mpr ⟨ta_oZret,
  fun _ h => absurd h List.not_mem_nil⟩⟩⟩⟩⟩⟩⟩⟩⟩⟩⟩⟩⟩⟩⟩⟩⟩⟩⟩⟩⟩⟩⟩⟩⟩⟩⟩
theorem mmkL16 (F : Nat → List Value → MS → Option MR) (L : Nat) (xs : Nat → Int32) : ∀ q ∈ kL16 F L xs, mTail q.2 :=
  List.forall_mem_cons.mpr ⟨ta_oKeep (ta_oAload _ _),
  List.forall_mem_cons.mpr ⟨ta_oAload _ _,
  List.forall_mem_cons.mpr ⟨ta_oIload _ _,
  List.forall_mem_cons.mpr ⟨ta_oPush _ _,
  List.forall_mem_cons.mpr ⟨ta_oBin _ _,
  List.forall_mem_cons.mpr ⟨ta_oScrLd _ _ _,
  List.forall_mem_cons.mpr ⟨ta_oAload _ _,
  List.forall_mem_cons.mpr ⟨ta_oIload _ _,
  List.forall_mem_cons.mpr ⟨ta_oPush _ _,
  List.forall_mem_cons.mpr ⟨ta_oBin _ _,
  List.forall_mem_cons.mpr ⟨ta_oScrLd _ _ _,
  List.forall_mem_cons.mpr ⟨ta_oAload _ _,
  List.forall_mem_cons.mpr ⟨ta_oIload _ _,
  List.forall_mem_cons.mpr ⟨ta_oPush _ _,
  List.forall_mem_cons.mpr ⟨ta_oBin _ _,
  List.forall_mem_cons.mpr ⟨ta_oScrLd _ _ _,
  List.forall_mem_cons.mpr ⟨ta_oAload _ _,
  List.forall_mem_cons.mpr ⟨ta_oIload _ _,
  List.forall_mem_cons.mpr ⟨ta_oPush _ _,
  List.forall_mem_cons.mpr ⟨ta_oBin _ _,
  List.forall_mem_cons.mpr ⟨ta_oScrLd _ _ _,
  List.forall_mem_cons.mpr ⟨ta_oCallV _ _ _ _ _,
  List.forall_mem_cons.mpr ⟨ta_oAload _ _,
  List.forall_mem_cons.mpr ⟨ta_oAload _ _,
  List.forall_mem_cons.mpr ⟨ta_oIload _ _,
  List.forall_mem_cons.mpr ⟨ta_oPush _ _,
  List.forall_mem_cons.mpr ⟨ta_oBin _ _,
  List.forall_mem_cons.mpr ⟨ta_oScrLd _ _ _,
  List.forall_mem_cons.mpr ⟨ta_oAload _ _,
  List.forall_mem_cons.mpr ⟨ta_oIload _ _,
  List.forall_mem_cons.mpr ⟨ta_oPush _ _,
  List.forall_mem_cons.mpr ⟨ta_oBin _ _,
  List.forall_mem_cons.mpr ⟨ta_oScrLd _ _ _,
  List.forall_mem_cons.mpr ⟨ta_oAload _ _,
  List.forall_mem_cons.mpr ⟨ta_oIload _ _,
  List.forall_mem_cons.mpr ⟨ta_oPush _ _,
  List.forall_mem_cons.mpr ⟨ta_oBin _ _,
  List.forall_mem_cons.mpr ⟨ta_oScrLd _ _ _,
  List.forall_mem_cons.mpr ⟨ta_oAload _ _,
  List.forall_mem_cons.mpr ⟨ta_oIload _ _,
  List.forall_mem_cons.mpr ⟨ta_oPush _ _,
  List.forall_mem_cons.mpr ⟨ta_oBin _ _,
  List.forall_mem_cons.mpr ⟨ta_oScrLd _ _ _,
  List.forall_mem_cons.mpr ⟨ta_oCallV _ _ _ _ _,
  List.forall_mem_cons.mpr ⟨ta_oIc_eq _ _,
  List.forall_mem_cons.mpr ⟨ta_oPush _ _,
  List.forall_mem_cons.mpr ⟨ta_oZret,
  fun _ h => absurd h List.not_mem_nil⟩⟩⟩⟩⟩⟩⟩⟩⟩⟩⟩⟩⟩⟩⟩⟩⟩⟩⟩⟩⟩⟩⟩⟩⟩⟩⟩⟩⟩⟩⟩⟩⟩⟩⟩⟩⟩⟩⟩⟩⟩⟩⟩⟩⟩⟩⟩
theorem mmkL17 (F : Nat → List Value → MS → Option MR) (L : Nat) (xs : Nat → Int32) : ∀ q ∈ kL17 F L xs, mTail q.2 :=
  List.forall_mem_cons.mpr ⟨ta_oKeep (ta_oAload _ _),
  List.forall_mem_cons.mpr ⟨ta_oAload _ _,
  List.forall_mem_cons.mpr ⟨ta_oIload _ _,
  List.forall_mem_cons.mpr ⟨ta_oPush _ _,
  List.forall_mem_cons.mpr ⟨ta_oBin _ _,
  List.forall_mem_cons.mpr ⟨ta_oScrLd _ _ _,
  List.forall_mem_cons.mpr ⟨ta_oAload _ _,
  List.forall_mem_cons.mpr ⟨ta_oIload _ _,
  List.forall_mem_cons.mpr ⟨ta_oPush _ _,
  List.forall_mem_cons.mpr ⟨ta_oBin _ _,
  List.forall_mem_cons.mpr ⟨ta_oScrLd _ _ _,
  List.forall_mem_cons.mpr ⟨ta_oCallV _ _ _ _ _,
  List.forall_mem_cons.mpr ⟨ta_oAload _ _,
  List.forall_mem_cons.mpr ⟨ta_oAload _ _,
  List.forall_mem_cons.mpr ⟨ta_oIload _ _,
  List.forall_mem_cons.mpr ⟨ta_oPush _ _,
  List.forall_mem_cons.mpr ⟨ta_oBin _ _,
  List.forall_mem_cons.mpr ⟨ta_oScrLd _ _ _,
  List.forall_mem_cons.mpr ⟨ta_oAload _ _,
  List.forall_mem_cons.mpr ⟨ta_oIload _ _,
  List.forall_mem_cons.mpr ⟨ta_oPush _ _,
  List.forall_mem_cons.mpr ⟨ta_oBin _ _,
  List.forall_mem_cons.mpr ⟨ta_oScrLd _ _ _,
  List.forall_mem_cons.mpr ⟨ta_oCallV _ _ _ _ _,
  List.forall_mem_cons.mpr ⟨ta_oIc_eq _ _,
  List.forall_mem_cons.mpr ⟨ta_oPush _ _,
  List.forall_mem_cons.mpr ⟨ta_oZret,
  fun _ h => absurd h List.not_mem_nil⟩⟩⟩⟩⟩⟩⟩⟩⟩⟩⟩⟩⟩⟩⟩⟩⟩⟩⟩⟩⟩⟩⟩⟩⟩⟩⟩
theorem mmkL18 (F : Nat → List Value → MS → Option MR) (L : Nat) (xs : Nat → Int32) : ∀ q ∈ kL18 F L xs, mTail q.2 :=
  List.forall_mem_cons.mpr ⟨ta_oKeep (ta_oAload _ _),
  List.forall_mem_cons.mpr ⟨ta_oAload _ _,
  List.forall_mem_cons.mpr ⟨ta_oIload _ _,
  List.forall_mem_cons.mpr ⟨ta_oPush _ _,
  List.forall_mem_cons.mpr ⟨ta_oBin _ _,
  List.forall_mem_cons.mpr ⟨ta_oScrLd _ _ _,
  List.forall_mem_cons.mpr ⟨ta_oCallV _ _ _ _ _,
  List.forall_mem_cons.mpr ⟨ta_oAload _ _,
  List.forall_mem_cons.mpr ⟨ta_oAload _ _,
  List.forall_mem_cons.mpr ⟨ta_oIload _ _,
  List.forall_mem_cons.mpr ⟨ta_oPush _ _,
  List.forall_mem_cons.mpr ⟨ta_oBin _ _,
  List.forall_mem_cons.mpr ⟨ta_oScrLd _ _ _,
  List.forall_mem_cons.mpr ⟨ta_oCallV _ _ _ _ _,
  List.forall_mem_cons.mpr ⟨ta_oIc_eq _ _,
  List.forall_mem_cons.mpr ⟨ta_oPush _ _,
  List.forall_mem_cons.mpr ⟨ta_oZret,
  fun _ h => absurd h List.not_mem_nil⟩⟩⟩⟩⟩⟩⟩⟩⟩⟩⟩⟩⟩⟩⟩⟩⟩
theorem mmkL19 (F : Nat → List Value → MS → Option MR) (L : Nat) (xs : Nat → Int32) : ∀ q ∈ kL19 F L xs, mTail q.2 :=
  List.forall_mem_cons.mpr ⟨ta_oKeep (ta_oAload _ _),
  List.forall_mem_cons.mpr ⟨ta_oAload _ _,
  List.forall_mem_cons.mpr ⟨ta_oIload _ _,
  List.forall_mem_cons.mpr ⟨ta_oPush _ _,
  List.forall_mem_cons.mpr ⟨ta_oBin _ _,
  List.forall_mem_cons.mpr ⟨ta_oScrLd _ _ _,
  List.forall_mem_cons.mpr ⟨ta_oCallV _ _ _ _ _,
  List.forall_mem_cons.mpr ⟨ta_oAload _ _,
  List.forall_mem_cons.mpr ⟨ta_oAload _ _,
  List.forall_mem_cons.mpr ⟨ta_oIload _ _,
  List.forall_mem_cons.mpr ⟨ta_oPush _ _,
  List.forall_mem_cons.mpr ⟨ta_oBin _ _,
  List.forall_mem_cons.mpr ⟨ta_oScrLd _ _ _,
  List.forall_mem_cons.mpr ⟨ta_oCallV _ _ _ _ _,
  List.forall_mem_cons.mpr ⟨ta_oIc_eq _ _,
  List.forall_mem_cons.mpr ⟨ta_oPush _ _,
  List.forall_mem_cons.mpr ⟨ta_oZret,
  fun _ h => absurd h List.not_mem_nil⟩⟩⟩⟩⟩⟩⟩⟩⟩⟩⟩⟩⟩⟩⟩⟩⟩
theorem mmkL20 (F : Nat → List Value → MS → Option MR) (L : Nat) (xs : Nat → Int32) : ∀ q ∈ kL20 F L xs, mTail q.2 :=
  List.forall_mem_cons.mpr ⟨ta_oKeep (ta_oAload _ _),
  List.forall_mem_cons.mpr ⟨ta_oAload _ _,
  List.forall_mem_cons.mpr ⟨ta_oIload _ _,
  List.forall_mem_cons.mpr ⟨ta_oPush _ _,
  List.forall_mem_cons.mpr ⟨ta_oBin _ _,
  List.forall_mem_cons.mpr ⟨ta_oScrLd _ _ _,
  List.forall_mem_cons.mpr ⟨ta_oCallV _ _ _ _ _,
  List.forall_mem_cons.mpr ⟨ta_oAload _ _,
  List.forall_mem_cons.mpr ⟨ta_oAload _ _,
  List.forall_mem_cons.mpr ⟨ta_oIload _ _,
  List.forall_mem_cons.mpr ⟨ta_oPush _ _,
  List.forall_mem_cons.mpr ⟨ta_oBin _ _,
  List.forall_mem_cons.mpr ⟨ta_oScrLd _ _ _,
  List.forall_mem_cons.mpr ⟨ta_oCallV _ _ _ _ _,
  List.forall_mem_cons.mpr ⟨ta_oIc_eq _ _,
  List.forall_mem_cons.mpr ⟨ta_oPush _ _,
  List.forall_mem_cons.mpr ⟨ta_oZret,
  fun _ h => absurd h List.not_mem_nil⟩⟩⟩⟩⟩⟩⟩⟩⟩⟩⟩⟩⟩⟩⟩⟩⟩
theorem mmkL21 (F : Nat → List Value → MS → Option MR) (L : Nat) (xs : Nat → Int32) : ∀ q ∈ kL21 F L xs, mTail q.2 :=
  List.forall_mem_cons.mpr ⟨ta_oKeep (ta_oAload _ _),
  List.forall_mem_cons.mpr ⟨ta_oAload _ _,
  List.forall_mem_cons.mpr ⟨ta_oIload _ _,
  List.forall_mem_cons.mpr ⟨ta_oPush _ _,
  List.forall_mem_cons.mpr ⟨ta_oBin _ _,
  List.forall_mem_cons.mpr ⟨ta_oScrLd _ _ _,
  List.forall_mem_cons.mpr ⟨ta_oAload _ _,
  List.forall_mem_cons.mpr ⟨ta_oIload _ _,
  List.forall_mem_cons.mpr ⟨ta_oPush _ _,
  List.forall_mem_cons.mpr ⟨ta_oBin _ _,
  List.forall_mem_cons.mpr ⟨ta_oScrLd _ _ _,
  List.forall_mem_cons.mpr ⟨ta_oAload _ _,
  List.forall_mem_cons.mpr ⟨ta_oIload _ _,
  List.forall_mem_cons.mpr ⟨ta_oPush _ _,
  List.forall_mem_cons.mpr ⟨ta_oBin _ _,
  List.forall_mem_cons.mpr ⟨ta_oScrLd _ _ _,
  List.forall_mem_cons.mpr ⟨ta_oAload _ _,
  List.forall_mem_cons.mpr ⟨ta_oIload _ _,
  List.forall_mem_cons.mpr ⟨ta_oPush _ _,
  List.forall_mem_cons.mpr ⟨ta_oBin _ _,
  List.forall_mem_cons.mpr ⟨ta_oScrLd _ _ _,
  List.forall_mem_cons.mpr ⟨ta_oCallV _ _ _ _ _,
  List.forall_mem_cons.mpr ⟨ta_oAload _ _,
  List.forall_mem_cons.mpr ⟨ta_oAload _ _,
  List.forall_mem_cons.mpr ⟨ta_oIload _ _,
  List.forall_mem_cons.mpr ⟨ta_oPush _ _,
  List.forall_mem_cons.mpr ⟨ta_oBin _ _,
  List.forall_mem_cons.mpr ⟨ta_oScrLd _ _ _,
  List.forall_mem_cons.mpr ⟨ta_oAload _ _,
  List.forall_mem_cons.mpr ⟨ta_oIload _ _,
  List.forall_mem_cons.mpr ⟨ta_oPush _ _,
  List.forall_mem_cons.mpr ⟨ta_oBin _ _,
  List.forall_mem_cons.mpr ⟨ta_oScrLd _ _ _,
  List.forall_mem_cons.mpr ⟨ta_oAload _ _,
  List.forall_mem_cons.mpr ⟨ta_oIload _ _,
  List.forall_mem_cons.mpr ⟨ta_oPush _ _,
  List.forall_mem_cons.mpr ⟨ta_oBin _ _,
  List.forall_mem_cons.mpr ⟨ta_oScrLd _ _ _,
  List.forall_mem_cons.mpr ⟨ta_oAload _ _,
  List.forall_mem_cons.mpr ⟨ta_oIload _ _,
  List.forall_mem_cons.mpr ⟨ta_oPush _ _,
  List.forall_mem_cons.mpr ⟨ta_oBin _ _,
  List.forall_mem_cons.mpr ⟨ta_oScrLd _ _ _,
  List.forall_mem_cons.mpr ⟨ta_oCallV _ _ _ _ _,
  List.forall_mem_cons.mpr ⟨ta_oIc_eq _ _,
  List.forall_mem_cons.mpr ⟨ta_oPush _ _,
  List.forall_mem_cons.mpr ⟨ta_oZret,
  fun _ h => absurd h List.not_mem_nil⟩⟩⟩⟩⟩⟩⟩⟩⟩⟩⟩⟩⟩⟩⟩⟩⟩⟩⟩⟩⟩⟩⟩⟩⟩⟩⟩⟩⟩⟩⟩⟩⟩⟩⟩⟩⟩⟩⟩⟩⟩⟩⟩⟩⟩⟩⟩
theorem mmkL22 (F : Nat → List Value → MS → Option MR) (L : Nat) (xs : Nat → Int32) : ∀ q ∈ kL22 F L xs, mTail q.2 :=
  List.forall_mem_cons.mpr ⟨ta_oKeep (ta_oAload _ _),
  List.forall_mem_cons.mpr ⟨ta_oAload _ _,
  List.forall_mem_cons.mpr ⟨ta_oIload _ _,
  List.forall_mem_cons.mpr ⟨ta_oPush _ _,
  List.forall_mem_cons.mpr ⟨ta_oBin _ _,
  List.forall_mem_cons.mpr ⟨ta_oScrLd _ _ _,
  List.forall_mem_cons.mpr ⟨ta_oAload _ _,
  List.forall_mem_cons.mpr ⟨ta_oIload _ _,
  List.forall_mem_cons.mpr ⟨ta_oPush _ _,
  List.forall_mem_cons.mpr ⟨ta_oBin _ _,
  List.forall_mem_cons.mpr ⟨ta_oScrLd _ _ _,
  List.forall_mem_cons.mpr ⟨ta_oAload _ _,
  List.forall_mem_cons.mpr ⟨ta_oIload _ _,
  List.forall_mem_cons.mpr ⟨ta_oPush _ _,
  List.forall_mem_cons.mpr ⟨ta_oBin _ _,
  List.forall_mem_cons.mpr ⟨ta_oScrLd _ _ _,
  List.forall_mem_cons.mpr ⟨ta_oAload _ _,
  List.forall_mem_cons.mpr ⟨ta_oIload _ _,
  List.forall_mem_cons.mpr ⟨ta_oPush _ _,
  List.forall_mem_cons.mpr ⟨ta_oBin _ _,
  List.forall_mem_cons.mpr ⟨ta_oScrLd _ _ _,
  List.forall_mem_cons.mpr ⟨ta_oAload _ _,
  List.forall_mem_cons.mpr ⟨ta_oIload _ _,
  List.forall_mem_cons.mpr ⟨ta_oPush _ _,
  List.forall_mem_cons.mpr ⟨ta_oBin _ _,
  List.forall_mem_cons.mpr ⟨ta_oScrLd _ _ _,
  List.forall_mem_cons.mpr ⟨ta_oCallV _ _ _ _ _,
  List.forall_mem_cons.mpr ⟨ta_oAload _ _,
  List.forall_mem_cons.mpr ⟨ta_oAload _ _,
  List.forall_mem_cons.mpr ⟨ta_oIload _ _,
  List.forall_mem_cons.mpr ⟨ta_oPush _ _,
  List.forall_mem_cons.mpr ⟨ta_oBin _ _,
  List.forall_mem_cons.mpr ⟨ta_oScrLd _ _ _,
  List.forall_mem_cons.mpr ⟨ta_oAload _ _,
  List.forall_mem_cons.mpr ⟨ta_oIload _ _,
  List.forall_mem_cons.mpr ⟨ta_oPush _ _,
  List.forall_mem_cons.mpr ⟨ta_oBin _ _,
  List.forall_mem_cons.mpr ⟨ta_oScrLd _ _ _,
  List.forall_mem_cons.mpr ⟨ta_oAload _ _,
  List.forall_mem_cons.mpr ⟨ta_oIload _ _,
  List.forall_mem_cons.mpr ⟨ta_oPush _ _,
  List.forall_mem_cons.mpr ⟨ta_oBin _ _,
  List.forall_mem_cons.mpr ⟨ta_oScrLd _ _ _,
  List.forall_mem_cons.mpr ⟨ta_oAload _ _,
  List.forall_mem_cons.mpr ⟨ta_oIload _ _,
  List.forall_mem_cons.mpr ⟨ta_oPush _ _,
  List.forall_mem_cons.mpr ⟨ta_oBin _ _,
  List.forall_mem_cons.mpr ⟨ta_oScrLd _ _ _,
  List.forall_mem_cons.mpr ⟨ta_oAload _ _,
  List.forall_mem_cons.mpr ⟨ta_oIload _ _,
  List.forall_mem_cons.mpr ⟨ta_oPush _ _,
  List.forall_mem_cons.mpr ⟨ta_oBin _ _,
  List.forall_mem_cons.mpr ⟨ta_oScrLd _ _ _,
  List.forall_mem_cons.mpr ⟨ta_oCallV _ _ _ _ _,
  List.forall_mem_cons.mpr ⟨ta_oIc_eq _ _,
  List.forall_mem_cons.mpr ⟨ta_oPush _ _,
  List.forall_mem_cons.mpr ⟨ta_oZret,
  fun _ h => absurd h List.not_mem_nil⟩⟩⟩⟩⟩⟩⟩⟩⟩⟩⟩⟩⟩⟩⟩⟩⟩⟩⟩⟩⟩⟩⟩⟩⟩⟩⟩⟩⟩⟩⟩⟩⟩⟩⟩⟩⟩⟩⟩⟩⟩⟩⟩⟩⟩⟩⟩⟩⟩⟩⟩⟩⟩⟩⟩⟩⟩
theorem mmkL23 (F : Nat → List Value → MS → Option MR) (L : Nat) (xs : Nat → Int32) : ∀ q ∈ kL23 F L xs, mTail q.2 :=
  List.forall_mem_cons.mpr ⟨ta_oKeep (ta_oAload _ _),
  List.forall_mem_cons.mpr ⟨ta_oAload _ _,
  List.forall_mem_cons.mpr ⟨ta_oIload _ _,
  List.forall_mem_cons.mpr ⟨ta_oPush _ _,
  List.forall_mem_cons.mpr ⟨ta_oBin _ _,
  List.forall_mem_cons.mpr ⟨ta_oScrLd _ _ _,
  List.forall_mem_cons.mpr ⟨ta_oAload _ _,
  List.forall_mem_cons.mpr ⟨ta_oIload _ _,
  List.forall_mem_cons.mpr ⟨ta_oPush _ _,
  List.forall_mem_cons.mpr ⟨ta_oBin _ _,
  List.forall_mem_cons.mpr ⟨ta_oScrLd _ _ _,
  List.forall_mem_cons.mpr ⟨ta_oAload _ _,
  List.forall_mem_cons.mpr ⟨ta_oIload _ _,
  List.forall_mem_cons.mpr ⟨ta_oPush _ _,
  List.forall_mem_cons.mpr ⟨ta_oBin _ _,
  List.forall_mem_cons.mpr ⟨ta_oScrLd _ _ _,
  List.forall_mem_cons.mpr ⟨ta_oCallV _ _ _ _ _,
  List.forall_mem_cons.mpr ⟨ta_oAload _ _,
  List.forall_mem_cons.mpr ⟨ta_oAload _ _,
  List.forall_mem_cons.mpr ⟨ta_oIload _ _,
  List.forall_mem_cons.mpr ⟨ta_oPush _ _,
  List.forall_mem_cons.mpr ⟨ta_oBin _ _,
  List.forall_mem_cons.mpr ⟨ta_oScrLd _ _ _,
  List.forall_mem_cons.mpr ⟨ta_oAload _ _,
  List.forall_mem_cons.mpr ⟨ta_oIload _ _,
  List.forall_mem_cons.mpr ⟨ta_oPush _ _,
  List.forall_mem_cons.mpr ⟨ta_oBin _ _,
  List.forall_mem_cons.mpr ⟨ta_oScrLd _ _ _,
  List.forall_mem_cons.mpr ⟨ta_oAload _ _,
  List.forall_mem_cons.mpr ⟨ta_oIload _ _,
  List.forall_mem_cons.mpr ⟨ta_oPush _ _,
  List.forall_mem_cons.mpr ⟨ta_oBin _ _,
  List.forall_mem_cons.mpr ⟨ta_oScrLd _ _ _,
  List.forall_mem_cons.mpr ⟨ta_oCallV _ _ _ _ _,
  List.forall_mem_cons.mpr ⟨ta_oIc_eq _ _,
  List.forall_mem_cons.mpr ⟨ta_oPush _ _,
  List.forall_mem_cons.mpr ⟨ta_oZret,
  fun _ h => absurd h List.not_mem_nil⟩⟩⟩⟩⟩⟩⟩⟩⟩⟩⟩⟩⟩⟩⟩⟩⟩⟩⟩⟩⟩⟩⟩⟩⟩⟩⟩⟩⟩⟩⟩⟩⟩⟩⟩⟩⟩
theorem mmkL24 (F : Nat → List Value → MS → Option MR) (L : Nat) (xs : Nat → Int32) : ∀ q ∈ kL24 F L xs, mTail q.2 :=
  List.forall_mem_cons.mpr ⟨ta_oKeep (ta_oAload _ _),
  List.forall_mem_cons.mpr ⟨ta_oAload _ _,
  List.forall_mem_cons.mpr ⟨ta_oIload _ _,
  List.forall_mem_cons.mpr ⟨ta_oPush _ _,
  List.forall_mem_cons.mpr ⟨ta_oBin _ _,
  List.forall_mem_cons.mpr ⟨ta_oScrLd _ _ _,
  List.forall_mem_cons.mpr ⟨ta_oAload _ _,
  List.forall_mem_cons.mpr ⟨ta_oIload _ _,
  List.forall_mem_cons.mpr ⟨ta_oPush _ _,
  List.forall_mem_cons.mpr ⟨ta_oBin _ _,
  List.forall_mem_cons.mpr ⟨ta_oScrLd _ _ _,
  List.forall_mem_cons.mpr ⟨ta_oCallV _ _ _ _ _,
  List.forall_mem_cons.mpr ⟨ta_oAload _ _,
  List.forall_mem_cons.mpr ⟨ta_oAload _ _,
  List.forall_mem_cons.mpr ⟨ta_oIload _ _,
  List.forall_mem_cons.mpr ⟨ta_oPush _ _,
  List.forall_mem_cons.mpr ⟨ta_oBin _ _,
  List.forall_mem_cons.mpr ⟨ta_oScrLd _ _ _,
  List.forall_mem_cons.mpr ⟨ta_oAload _ _,
  List.forall_mem_cons.mpr ⟨ta_oIload _ _,
  List.forall_mem_cons.mpr ⟨ta_oPush _ _,
  List.forall_mem_cons.mpr ⟨ta_oBin _ _,
  List.forall_mem_cons.mpr ⟨ta_oScrLd _ _ _,
  List.forall_mem_cons.mpr ⟨ta_oCallV _ _ _ _ _,
  List.forall_mem_cons.mpr ⟨ta_oIc_eq _ _,
  List.forall_mem_cons.mpr ⟨ta_oPush _ _,
  List.forall_mem_cons.mpr ⟨ta_oZret,
  fun _ h => absurd h List.not_mem_nil⟩⟩⟩⟩⟩⟩⟩⟩⟩⟩⟩⟩⟩⟩⟩⟩⟩⟩⟩⟩⟩⟩⟩⟩⟩⟩⟩
theorem mmkL25 (F : Nat → List Value → MS → Option MR) (L : Nat) (xs : Nat → Int32) : ∀ q ∈ kL25 F L xs, mTail q.2 :=
  List.forall_mem_cons.mpr ⟨ta_oKeep (ta_oAload _ _),
  List.forall_mem_cons.mpr ⟨ta_oAload _ _,
  List.forall_mem_cons.mpr ⟨ta_oIload _ _,
  List.forall_mem_cons.mpr ⟨ta_oPush _ _,
  List.forall_mem_cons.mpr ⟨ta_oBin _ _,
  List.forall_mem_cons.mpr ⟨ta_oScrLd _ _ _,
  List.forall_mem_cons.mpr ⟨ta_oAload _ _,
  List.forall_mem_cons.mpr ⟨ta_oIload _ _,
  List.forall_mem_cons.mpr ⟨ta_oPush _ _,
  List.forall_mem_cons.mpr ⟨ta_oBin _ _,
  List.forall_mem_cons.mpr ⟨ta_oScrLd _ _ _,
  List.forall_mem_cons.mpr ⟨ta_oAload _ _,
  List.forall_mem_cons.mpr ⟨ta_oIload _ _,
  List.forall_mem_cons.mpr ⟨ta_oPush _ _,
  List.forall_mem_cons.mpr ⟨ta_oBin _ _,
  List.forall_mem_cons.mpr ⟨ta_oScrLd _ _ _,
  List.forall_mem_cons.mpr ⟨ta_oCallV _ _ _ _ _,
  List.forall_mem_cons.mpr ⟨ta_oAload _ _,
  List.forall_mem_cons.mpr ⟨ta_oAload _ _,
  List.forall_mem_cons.mpr ⟨ta_oIload _ _,
  List.forall_mem_cons.mpr ⟨ta_oPush _ _,
  List.forall_mem_cons.mpr ⟨ta_oBin _ _,
  List.forall_mem_cons.mpr ⟨ta_oScrLd _ _ _,
  List.forall_mem_cons.mpr ⟨ta_oAload _ _,
  List.forall_mem_cons.mpr ⟨ta_oIload _ _,
  List.forall_mem_cons.mpr ⟨ta_oPush _ _,
  List.forall_mem_cons.mpr ⟨ta_oBin _ _,
  List.forall_mem_cons.mpr ⟨ta_oScrLd _ _ _,
  List.forall_mem_cons.mpr ⟨ta_oAload _ _,
  List.forall_mem_cons.mpr ⟨ta_oIload _ _,
  List.forall_mem_cons.mpr ⟨ta_oPush _ _,
  List.forall_mem_cons.mpr ⟨ta_oBin _ _,
  List.forall_mem_cons.mpr ⟨ta_oScrLd _ _ _,
  List.forall_mem_cons.mpr ⟨ta_oCallV _ _ _ _ _,
  List.forall_mem_cons.mpr ⟨ta_oIc_eq _ _,
  List.forall_mem_cons.mpr ⟨ta_oPush _ _,
  List.forall_mem_cons.mpr ⟨ta_oZret,
  fun _ h => absurd h List.not_mem_nil⟩⟩⟩⟩⟩⟩⟩⟩⟩⟩⟩⟩⟩⟩⟩⟩⟩⟩⟩⟩⟩⟩⟩⟩⟩⟩⟩⟩⟩⟩⟩⟩⟩⟩⟩⟩⟩
theorem mmkL26 (F : Nat → List Value → MS → Option MR) (L : Nat) (xs : Nat → Int32) : ∀ q ∈ kL26 F L xs, mTail q.2 :=
  List.forall_mem_cons.mpr ⟨ta_oKeep (ta_oAload _ _),
  List.forall_mem_cons.mpr ⟨ta_oAload _ _,
  List.forall_mem_cons.mpr ⟨ta_oIload _ _,
  List.forall_mem_cons.mpr ⟨ta_oPush _ _,
  List.forall_mem_cons.mpr ⟨ta_oBin _ _,
  List.forall_mem_cons.mpr ⟨ta_oScrLd _ _ _,
  List.forall_mem_cons.mpr ⟨ta_oCallV _ _ _ _ _,
  List.forall_mem_cons.mpr ⟨ta_oAload _ _,
  List.forall_mem_cons.mpr ⟨ta_oAload _ _,
  List.forall_mem_cons.mpr ⟨ta_oIload _ _,
  List.forall_mem_cons.mpr ⟨ta_oPush _ _,
  List.forall_mem_cons.mpr ⟨ta_oBin _ _,
  List.forall_mem_cons.mpr ⟨ta_oScrLd _ _ _,
  List.forall_mem_cons.mpr ⟨ta_oCallV _ _ _ _ _,
  List.forall_mem_cons.mpr ⟨ta_oIc_eq _ _,
  List.forall_mem_cons.mpr ⟨ta_oPush _ _,
  List.forall_mem_cons.mpr ⟨ta_oZret,
  fun _ h => absurd h List.not_mem_nil⟩⟩⟩⟩⟩⟩⟩⟩⟩⟩⟩⟩⟩⟩⟩⟩⟩
theorem mmkL27 (F : Nat → List Value → MS → Option MR) (L : Nat) (xs : Nat → Int32) : ∀ q ∈ kL27 F L xs, mTail q.2 :=
  List.forall_mem_cons.mpr ⟨ta_oKeep (ta_oAload _ _),
  List.forall_mem_cons.mpr ⟨ta_oAload _ _,
  List.forall_mem_cons.mpr ⟨ta_oIload _ _,
  List.forall_mem_cons.mpr ⟨ta_oPush _ _,
  List.forall_mem_cons.mpr ⟨ta_oBin _ _,
  List.forall_mem_cons.mpr ⟨ta_oScrLd _ _ _,
  List.forall_mem_cons.mpr ⟨ta_oAload _ _,
  List.forall_mem_cons.mpr ⟨ta_oIload _ _,
  List.forall_mem_cons.mpr ⟨ta_oPush _ _,
  List.forall_mem_cons.mpr ⟨ta_oBin _ _,
  List.forall_mem_cons.mpr ⟨ta_oScrLd _ _ _,
  List.forall_mem_cons.mpr ⟨ta_oAload _ _,
  List.forall_mem_cons.mpr ⟨ta_oIload _ _,
  List.forall_mem_cons.mpr ⟨ta_oPush _ _,
  List.forall_mem_cons.mpr ⟨ta_oBin _ _,
  List.forall_mem_cons.mpr ⟨ta_oScrLd _ _ _,
  List.forall_mem_cons.mpr ⟨ta_oCallV _ _ _ _ _,
  List.forall_mem_cons.mpr ⟨ta_oAload _ _,
  List.forall_mem_cons.mpr ⟨ta_oAload _ _,
  List.forall_mem_cons.mpr ⟨ta_oIload _ _,
  List.forall_mem_cons.mpr ⟨ta_oPush _ _,
  List.forall_mem_cons.mpr ⟨ta_oBin _ _,
  List.forall_mem_cons.mpr ⟨ta_oScrLd _ _ _,
  List.forall_mem_cons.mpr ⟨ta_oAload _ _,
  List.forall_mem_cons.mpr ⟨ta_oIload _ _,
  List.forall_mem_cons.mpr ⟨ta_oPush _ _,
  List.forall_mem_cons.mpr ⟨ta_oBin _ _,
  List.forall_mem_cons.mpr ⟨ta_oScrLd _ _ _,
  List.forall_mem_cons.mpr ⟨ta_oAload _ _,
  List.forall_mem_cons.mpr ⟨ta_oIload _ _,
  List.forall_mem_cons.mpr ⟨ta_oPush _ _,
  List.forall_mem_cons.mpr ⟨ta_oBin _ _,
  List.forall_mem_cons.mpr ⟨ta_oScrLd _ _ _,
  List.forall_mem_cons.mpr ⟨ta_oCallV _ _ _ _ _,
  List.forall_mem_cons.mpr ⟨ta_oIc_eq _ _,
  List.forall_mem_cons.mpr ⟨ta_oPush _ _,
  List.forall_mem_cons.mpr ⟨ta_oZret,
  fun _ h => absurd h List.not_mem_nil⟩⟩⟩⟩⟩⟩⟩⟩⟩⟩⟩⟩⟩⟩⟩⟩⟩⟩⟩⟩⟩⟩⟩⟩⟩⟩⟩⟩⟩⟩⟩⟩⟩⟩⟩⟩⟩
theorem mmkL28 (F : Nat → List Value → MS → Option MR) (L : Nat) (xs : Nat → Int32) : ∀ q ∈ kL28 F L xs, mTail q.2 :=
  List.forall_mem_cons.mpr ⟨ta_oKeep (ta_oAload _ _),
  List.forall_mem_cons.mpr ⟨ta_oAload _ _,
  List.forall_mem_cons.mpr ⟨ta_oIload _ _,
  List.forall_mem_cons.mpr ⟨ta_oPush _ _,
  List.forall_mem_cons.mpr ⟨ta_oBin _ _,
  List.forall_mem_cons.mpr ⟨ta_oScrLd _ _ _,
  List.forall_mem_cons.mpr ⟨ta_oAload _ _,
  List.forall_mem_cons.mpr ⟨ta_oIload _ _,
  List.forall_mem_cons.mpr ⟨ta_oPush _ _,
  List.forall_mem_cons.mpr ⟨ta_oBin _ _,
  List.forall_mem_cons.mpr ⟨ta_oScrLd _ _ _,
  List.forall_mem_cons.mpr ⟨ta_oAload _ _,
  List.forall_mem_cons.mpr ⟨ta_oIload _ _,
  List.forall_mem_cons.mpr ⟨ta_oPush _ _,
  List.forall_mem_cons.mpr ⟨ta_oBin _ _,
  List.forall_mem_cons.mpr ⟨ta_oScrLd _ _ _,
  List.forall_mem_cons.mpr ⟨ta_oCallV _ _ _ _ _,
  List.forall_mem_cons.mpr ⟨ta_oAload _ _,
  List.forall_mem_cons.mpr ⟨ta_oAload _ _,
  List.forall_mem_cons.mpr ⟨ta_oIload _ _,
  List.forall_mem_cons.mpr ⟨ta_oPush _ _,
  List.forall_mem_cons.mpr ⟨ta_oBin _ _,
  List.forall_mem_cons.mpr ⟨ta_oScrLd _ _ _,
  List.forall_mem_cons.mpr ⟨ta_oAload _ _,
  List.forall_mem_cons.mpr ⟨ta_oIload _ _,
  List.forall_mem_cons.mpr ⟨ta_oPush _ _,
  List.forall_mem_cons.mpr ⟨ta_oBin _ _,
  List.forall_mem_cons.mpr ⟨ta_oScrLd _ _ _,
  List.forall_mem_cons.mpr ⟨ta_oAload _ _,
  List.forall_mem_cons.mpr ⟨ta_oIload _ _,
  List.forall_mem_cons.mpr ⟨ta_oPush _ _,
  List.forall_mem_cons.mpr ⟨ta_oBin _ _,
  List.forall_mem_cons.mpr ⟨ta_oScrLd _ _ _,
  List.forall_mem_cons.mpr ⟨ta_oCallV _ _ _ _ _,
  List.forall_mem_cons.mpr ⟨ta_oIc_eq _ _,
  List.forall_mem_cons.mpr ⟨ta_oPush _ _,
  List.forall_mem_cons.mpr ⟨ta_oZret,
  fun _ h => absurd h List.not_mem_nil⟩⟩⟩⟩⟩⟩⟩⟩⟩⟩⟩⟩⟩⟩⟩⟩⟩⟩⟩⟩⟩⟩⟩⟩⟩⟩⟩⟩⟩⟩⟩⟩⟩⟩⟩⟩⟩
theorem mmkL29 (F : Nat → List Value → MS → Option MR) (L : Nat) (xs : Nat → Int32) : ∀ q ∈ kL29 F L xs, mTail q.2 :=
  List.forall_mem_cons.mpr ⟨ta_oKeep (ta_oAload _ _),
  List.forall_mem_cons.mpr ⟨ta_oAload _ _,
  List.forall_mem_cons.mpr ⟨ta_oIload _ _,
  List.forall_mem_cons.mpr ⟨ta_oPush _ _,
  List.forall_mem_cons.mpr ⟨ta_oBin _ _,
  List.forall_mem_cons.mpr ⟨ta_oScrLd _ _ _,
  List.forall_mem_cons.mpr ⟨ta_oAload _ _,
  List.forall_mem_cons.mpr ⟨ta_oIload _ _,
  List.forall_mem_cons.mpr ⟨ta_oPush _ _,
  List.forall_mem_cons.mpr ⟨ta_oBin _ _,
  List.forall_mem_cons.mpr ⟨ta_oScrLd _ _ _,
  List.forall_mem_cons.mpr ⟨ta_oAload _ _,
  List.forall_mem_cons.mpr ⟨ta_oIload _ _,
  List.forall_mem_cons.mpr ⟨ta_oPush _ _,
  List.forall_mem_cons.mpr ⟨ta_oBin _ _,
  List.forall_mem_cons.mpr ⟨ta_oScrLd _ _ _,
  List.forall_mem_cons.mpr ⟨ta_oAload _ _,
  List.forall_mem_cons.mpr ⟨ta_oIload _ _,
  List.forall_mem_cons.mpr ⟨ta_oPush _ _,
  List.forall_mem_cons.mpr ⟨ta_oBin _ _,
  List.forall_mem_cons.mpr ⟨ta_oScrLd _ _ _,
  List.forall_mem_cons.mpr ⟨ta_oAload _ _,
  List.forall_mem_cons.mpr ⟨ta_oIload _ _,
  List.forall_mem_cons.mpr ⟨ta_oPush _ _,
  List.forall_mem_cons.mpr ⟨ta_oBin _ _,
  List.forall_mem_cons.mpr ⟨ta_oScrLd _ _ _,
  List.forall_mem_cons.mpr ⟨ta_oCallV _ _ _ _ _,
  List.forall_mem_cons.mpr ⟨ta_oAload _ _,
  List.forall_mem_cons.mpr ⟨ta_oAload _ _,
  List.forall_mem_cons.mpr ⟨ta_oIload _ _,
  List.forall_mem_cons.mpr ⟨ta_oPush _ _,
  List.forall_mem_cons.mpr ⟨ta_oBin _ _,
  List.forall_mem_cons.mpr ⟨ta_oScrLd _ _ _,
  List.forall_mem_cons.mpr ⟨ta_oAload _ _,
  List.forall_mem_cons.mpr ⟨ta_oIload _ _,
  List.forall_mem_cons.mpr ⟨ta_oPush _ _,
  List.forall_mem_cons.mpr ⟨ta_oBin _ _,
  List.forall_mem_cons.mpr ⟨ta_oScrLd _ _ _,
  List.forall_mem_cons.mpr ⟨ta_oAload _ _,
  List.forall_mem_cons.mpr ⟨ta_oIload _ _,
  List.forall_mem_cons.mpr ⟨ta_oPush _ _,
  List.forall_mem_cons.mpr ⟨ta_oBin _ _,
  List.forall_mem_cons.mpr ⟨ta_oScrLd _ _ _,
  List.forall_mem_cons.mpr ⟨ta_oAload _ _,
  List.forall_mem_cons.mpr ⟨ta_oIload _ _,
  List.forall_mem_cons.mpr ⟨ta_oPush _ _,
  List.forall_mem_cons.mpr ⟨ta_oBin _ _,
  List.forall_mem_cons.mpr ⟨ta_oScrLd _ _ _,
  List.forall_mem_cons.mpr ⟨ta_oAload _ _,
  List.forall_mem_cons.mpr ⟨ta_oIload _ _,
  List.forall_mem_cons.mpr ⟨ta_oPush _ _,
  List.forall_mem_cons.mpr ⟨ta_oBin _ _,
  List.forall_mem_cons.mpr ⟨ta_oScrLd _ _ _,
  List.forall_mem_cons.mpr ⟨ta_oCallV _ _ _ _ _,
  List.forall_mem_cons.mpr ⟨ta_oIc_eq _ _,
  List.forall_mem_cons.mpr ⟨ta_oPush _ _,
  List.forall_mem_cons.mpr ⟨ta_oZret,
  fun _ h => absurd h List.not_mem_nil⟩⟩⟩⟩⟩⟩⟩⟩⟩⟩⟩⟩⟩⟩⟩⟩⟩⟩⟩⟩⟩⟩⟩⟩⟩⟩⟩⟩⟩⟩⟩⟩⟩⟩⟩⟩⟩⟩⟩⟩⟩⟩⟩⟩⟩⟩⟩⟩⟩⟩⟩⟩⟩⟩⟩⟩⟩
theorem mmkL30 (F : Nat → List Value → MS → Option MR) (L : Nat) (xs : Nat → Int32) : ∀ q ∈ kL30 F L xs, mTail q.2 :=
  List.forall_mem_cons.mpr ⟨ta_oKeep (ta_oAload _ _),
  List.forall_mem_cons.mpr ⟨ta_oAload _ _,
  List.forall_mem_cons.mpr ⟨ta_oIload _ _,
  List.forall_mem_cons.mpr ⟨ta_oPush _ _,
  List.forall_mem_cons.mpr ⟨ta_oBin _ _,
  List.forall_mem_cons.mpr ⟨ta_oScrLd _ _ _,
  List.forall_mem_cons.mpr ⟨ta_oCallV _ _ _ _ _,
  List.forall_mem_cons.mpr ⟨ta_oAload _ _,
  List.forall_mem_cons.mpr ⟨ta_oAload _ _,
  List.forall_mem_cons.mpr ⟨ta_oIload _ _,
  List.forall_mem_cons.mpr ⟨ta_oPush _ _,
  List.forall_mem_cons.mpr ⟨ta_oBin _ _,
  List.forall_mem_cons.mpr ⟨ta_oScrLd _ _ _,
  List.forall_mem_cons.mpr ⟨ta_oCallV _ _ _ _ _,
  List.forall_mem_cons.mpr ⟨ta_oIc_eq _ _,
  List.forall_mem_cons.mpr ⟨ta_oPush _ _,
  List.forall_mem_cons.mpr ⟨ta_oZret,
  fun _ h => absurd h List.not_mem_nil⟩⟩⟩⟩⟩⟩⟩⟩⟩⟩⟩⟩⟩⟩⟩⟩⟩
theorem mmkL31 (F : Nat → List Value → MS → Option MR) (L : Nat) (xs : Nat → Int32) : ∀ q ∈ kL31 F L xs, mTail q.2 :=
  List.forall_mem_cons.mpr ⟨ta_oKeep (ta_oAload _ _),
  List.forall_mem_cons.mpr ⟨ta_oAload _ _,
  List.forall_mem_cons.mpr ⟨ta_oIload _ _,
  List.forall_mem_cons.mpr ⟨ta_oPush _ _,
  List.forall_mem_cons.mpr ⟨ta_oBin _ _,
  List.forall_mem_cons.mpr ⟨ta_oScrLd _ _ _,
  List.forall_mem_cons.mpr ⟨ta_oCallV _ _ _ _ _,
  List.forall_mem_cons.mpr ⟨ta_oAload _ _,
  List.forall_mem_cons.mpr ⟨ta_oAload _ _,
  List.forall_mem_cons.mpr ⟨ta_oIload _ _,
  List.forall_mem_cons.mpr ⟨ta_oPush _ _,
  List.forall_mem_cons.mpr ⟨ta_oBin _ _,
  List.forall_mem_cons.mpr ⟨ta_oScrLd _ _ _,
  List.forall_mem_cons.mpr ⟨ta_oCallV _ _ _ _ _,
  List.forall_mem_cons.mpr ⟨ta_oIc_eq _ _,
  List.forall_mem_cons.mpr ⟨ta_oPush _ _,
  List.forall_mem_cons.mpr ⟨ta_oZret,
  fun _ h => absurd h List.not_mem_nil⟩⟩⟩⟩⟩⟩⟩⟩⟩⟩⟩⟩⟩⟩⟩⟩⟩
theorem mmkL32 (F : Nat → List Value → MS → Option MR) (L : Nat) (xs : Nat → Int32) : ∀ q ∈ kL32 F L xs, mTail q.2 :=
  List.forall_mem_cons.mpr ⟨ta_oKeep (ta_oAload _ _),
  List.forall_mem_cons.mpr ⟨ta_oCallV _ _ _ _ _,
  List.forall_mem_cons.mpr ⟨ta_oAload _ _,
  List.forall_mem_cons.mpr ⟨ta_oCallV _ _ _ _ _,
  List.forall_mem_cons.mpr ⟨ta_oIc_eq _ _,
  List.forall_mem_cons.mpr ⟨ta_oPush _ _,
  List.forall_mem_cons.mpr ⟨ta_oZret,
  fun _ h => absurd h List.not_mem_nil⟩⟩⟩⟩⟩⟩⟩
theorem mmkL33 (F : Nat → List Value → MS → Option MR) (L : Nat) (xs : Nat → Int32) : ∀ q ∈ kL33 F L xs, mTail q.2 :=
  List.forall_mem_cons.mpr ⟨ta_oKeep (ta_oAload _ _),
  List.forall_mem_cons.mpr ⟨ta_oCallV _ _ _ _ _,
  List.forall_mem_cons.mpr ⟨ta_oAload _ _,
  List.forall_mem_cons.mpr ⟨ta_oCallV _ _ _ _ _,
  List.forall_mem_cons.mpr ⟨ta_oIc_eq _ _,
  List.forall_mem_cons.mpr ⟨ta_oPush _ _,
  List.forall_mem_cons.mpr ⟨ta_oZret,
  fun _ h => absurd h List.not_mem_nil⟩⟩⟩⟩⟩⟩⟩
theorem mmkL34 (F : Nat → List Value → MS → Option MR) (L : Nat) (xs : Nat → Int32) : ∀ q ∈ kL34 F L xs, mTail q.2 :=
  List.forall_mem_cons.mpr ⟨ta_oKeep (ta_oAload _ _),
  List.forall_mem_cons.mpr ⟨ta_oAload _ _,
  List.forall_mem_cons.mpr ⟨ta_oIload _ _,
  List.forall_mem_cons.mpr ⟨ta_oPush _ _,
  List.forall_mem_cons.mpr ⟨ta_oBin _ _,
  List.forall_mem_cons.mpr ⟨ta_oScrLd _ _ _,
  List.forall_mem_cons.mpr ⟨ta_oCallV _ _ _ _ _,
  List.forall_mem_cons.mpr ⟨ta_oAload _ _,
  List.forall_mem_cons.mpr ⟨ta_oAload _ _,
  List.forall_mem_cons.mpr ⟨ta_oIload _ _,
  List.forall_mem_cons.mpr ⟨ta_oPush _ _,
  List.forall_mem_cons.mpr ⟨ta_oBin _ _,
  List.forall_mem_cons.mpr ⟨ta_oScrLd _ _ _,
  List.forall_mem_cons.mpr ⟨ta_oCallV _ _ _ _ _,
  List.forall_mem_cons.mpr ⟨ta_oIc_eq _ _,
  List.forall_mem_cons.mpr ⟨ta_oPush _ _,
  List.forall_mem_cons.mpr ⟨ta_oZret,
  fun _ h => absurd h List.not_mem_nil⟩⟩⟩⟩⟩⟩⟩⟩⟩⟩⟩⟩⟩⟩⟩⟩⟩
theorem mmkL35 (F : Nat → List Value → MS → Option MR) (L : Nat) (xs : Nat → Int32) : ∀ q ∈ kL35 F L xs, mTail q.2 :=
  List.forall_mem_cons.mpr ⟨ta_oKeep (ta_oAload _ _),
  List.forall_mem_cons.mpr ⟨ta_oCallV _ _ _ _ _,
  List.forall_mem_cons.mpr ⟨ta_oAload _ _,
  List.forall_mem_cons.mpr ⟨ta_oCallV _ _ _ _ _,
  List.forall_mem_cons.mpr ⟨ta_oIc_eq _ _,
  List.forall_mem_cons.mpr ⟨ta_oPush _ _,
  List.forall_mem_cons.mpr ⟨ta_oZret,
  fun _ h => absurd h List.not_mem_nil⟩⟩⟩⟩⟩⟩⟩
theorem mmkL36 (F : Nat → List Value → MS → Option MR) (L : Nat) (xs : Nat → Int32) : ∀ q ∈ kL36 F L xs, mTail q.2 :=
  List.forall_mem_cons.mpr ⟨ta_oKeep (ta_oAload _ _),
  List.forall_mem_cons.mpr ⟨ta_oAload _ _,
  List.forall_mem_cons.mpr ⟨ta_oIload _ _,
  List.forall_mem_cons.mpr ⟨ta_oPush _ _,
  List.forall_mem_cons.mpr ⟨ta_oBin _ _,
  List.forall_mem_cons.mpr ⟨ta_oScrLd _ _ _,
  List.forall_mem_cons.mpr ⟨ta_oCallV _ _ _ _ _,
  List.forall_mem_cons.mpr ⟨ta_oAload _ _,
  List.forall_mem_cons.mpr ⟨ta_oAload _ _,
  List.forall_mem_cons.mpr ⟨ta_oIload _ _,
  List.forall_mem_cons.mpr ⟨ta_oPush _ _,
  List.forall_mem_cons.mpr ⟨ta_oBin _ _,
  List.forall_mem_cons.mpr ⟨ta_oScrLd _ _ _,
  List.forall_mem_cons.mpr ⟨ta_oCallV _ _ _ _ _,
  List.forall_mem_cons.mpr ⟨ta_oIc_eq _ _,
  List.forall_mem_cons.mpr ⟨ta_oPush _ _,
  List.forall_mem_cons.mpr ⟨ta_oZret,
  fun _ h => absurd h List.not_mem_nil⟩⟩⟩⟩⟩⟩⟩⟩⟩⟩⟩⟩⟩⟩⟩⟩⟩
theorem mmkL37 (F : Nat → List Value → MS → Option MR) (L : Nat) (xs : Nat → Int32) : ∀ q ∈ kL37 F L xs, mTail q.2 :=
  List.forall_mem_cons.mpr ⟨ta_oKeep (ta_oAload _ _),
  List.forall_mem_cons.mpr ⟨ta_oAload _ _,
  List.forall_mem_cons.mpr ⟨ta_oIload _ _,
  List.forall_mem_cons.mpr ⟨ta_oPush _ _,
  List.forall_mem_cons.mpr ⟨ta_oBin _ _,
  List.forall_mem_cons.mpr ⟨ta_oScrLd _ _ _,
  List.forall_mem_cons.mpr ⟨ta_oCallV _ _ _ _ _,
  List.forall_mem_cons.mpr ⟨ta_oAload _ _,
  List.forall_mem_cons.mpr ⟨ta_oAload _ _,
  List.forall_mem_cons.mpr ⟨ta_oIload _ _,
  List.forall_mem_cons.mpr ⟨ta_oPush _ _,
  List.forall_mem_cons.mpr ⟨ta_oBin _ _,
  List.forall_mem_cons.mpr ⟨ta_oScrLd _ _ _,
  List.forall_mem_cons.mpr ⟨ta_oCallV _ _ _ _ _,
  List.forall_mem_cons.mpr ⟨ta_oIc_eq _ _,
  List.forall_mem_cons.mpr ⟨ta_oPush _ _,
  List.forall_mem_cons.mpr ⟨ta_oZret,
  fun _ h => absurd h List.not_mem_nil⟩⟩⟩⟩⟩⟩⟩⟩⟩⟩⟩⟩⟩⟩⟩⟩⟩
theorem mmkL38 (F : Nat → List Value → MS → Option MR) (L : Nat) (xs : Nat → Int32) : ∀ q ∈ kL38 F L xs, mTail q.2 :=
  List.forall_mem_cons.mpr ⟨ta_oKeep (ta_oIinc _ _ _),
  List.forall_mem_cons.mpr ⟨ta_oGoto _,
  List.forall_mem_cons.mpr ⟨ta_oPush _ _,
  List.forall_mem_cons.mpr ⟨ta_oZret,
  fun _ h => absurd h List.not_mem_nil⟩⟩⟩⟩
theorem mmkL (F : Nat → List Value → MS → Option MR) (L : Nat) (xs : Nat → Int32) : ∀ q ∈ kL F L xs, mTail q.2 :=
  List.forall_mem_append.mpr ⟨mmkL0 F L xs, List.forall_mem_append.mpr ⟨mmkL1 F L xs, List.forall_mem_append.mpr ⟨mmkL2 F L xs, List.forall_mem_append.mpr ⟨mmkL3 F L xs, List.forall_mem_append.mpr ⟨mmkL4 F L xs, List.forall_mem_append.mpr ⟨mmkL5 F L xs, List.forall_mem_append.mpr ⟨mmkL6 F L xs, List.forall_mem_append.mpr ⟨mmkL7 F L xs, List.forall_mem_append.mpr ⟨mmkL8 F L xs, List.forall_mem_append.mpr ⟨mmkL9 F L xs, List.forall_mem_append.mpr ⟨mmkL10 F L xs, List.forall_mem_append.mpr ⟨mmkL11 F L xs, List.forall_mem_append.mpr ⟨mmkL12 F L xs, List.forall_mem_append.mpr ⟨mmkL13 F L xs, List.forall_mem_append.mpr ⟨mmkL14 F L xs, List.forall_mem_append.mpr ⟨mmkL15 F L xs, List.forall_mem_append.mpr ⟨mmkL16 F L xs, List.forall_mem_append.mpr ⟨mmkL17 F L xs, List.forall_mem_append.mpr ⟨mmkL18 F L xs, List.forall_mem_append.mpr ⟨mmkL19 F L xs, List.forall_mem_append.mpr ⟨mmkL20 F L xs, List.forall_mem_append.mpr ⟨mmkL21 F L xs, List.forall_mem_append.mpr ⟨mmkL22 F L xs, List.forall_mem_append.mpr ⟨mmkL23 F L xs, List.forall_mem_append.mpr ⟨mmkL24 F L xs, List.forall_mem_append.mpr ⟨mmkL25 F L xs, List.forall_mem_append.mpr ⟨mmkL26 F L xs, List.forall_mem_append.mpr ⟨mmkL27 F L xs, List.forall_mem_append.mpr ⟨mmkL28 F L xs, List.forall_mem_append.mpr ⟨mmkL29 F L xs, List.forall_mem_append.mpr ⟨mmkL30 F L xs, List.forall_mem_append.mpr ⟨mmkL31 F L xs, List.forall_mem_append.mpr ⟨mmkL32 F L xs, List.forall_mem_append.mpr ⟨mmkL33 F L xs, List.forall_mem_append.mpr ⟨mmkL34 F L xs, List.forall_mem_append.mpr ⟨mmkL35 F L xs, List.forall_mem_append.mpr ⟨mmkL36 F L xs, List.forall_mem_append.mpr ⟨mmkL37 F L xs, mmkL38 F L xs⟩⟩⟩⟩⟩⟩⟩⟩⟩⟩⟩⟩⟩⟩⟩⟩⟩⟩⟩⟩⟩⟩⟩⟩⟩⟩⟩⟩⟩⟩⟩⟩⟩⟩⟩⟩⟩⟩
