theorem LB_X10_lookUp : LB yX10_lookUp cX10_lookUp 1 (some .int) 0 := ⟨tin 943 (by decide +kernel) (by decide +kernel), tin 8 (by decide +kernel) (by decide +kernel), by decide, by decide, by decide, by decide +kernel⟩
theorem lk_L_102 : Cond.methodLink RL 102 yX10_lookUp ∈ tblG ∧ Cond.instanceMethod yX10_lookUp ∈ tblG ∧ Cond.selects yX10_lookUp.cls yX10_lookUp yX10_lookUp ∈ tblG := ⟨tin 940 (by decide +kernel) (by decide +kernel), tin 941 (by decide +kernel) (by decide +kernel), tin 942 (by decide +kernel) (by decide +kernel)⟩
theorem LB_X10_setLetter : LB yX10_setLetter cX10_setLetter 5 (some .int) 3 := ⟨tin 947 (by decide +kernel) (by decide +kernel), tin 8 (by decide +kernel) (by decide +kernel), by decide, by decide, by decide, by decide +kernel⟩
theorem lk_L_106 : Cond.methodLink RL 106 yX10_setLetter ∈ tblG ∧ Cond.instanceMethod yX10_setLetter ∈ tblG ∧ Cond.selects yX10_setLetter.cls yX10_setLetter yX10_setLetter ∈ tblG := ⟨tin 944 (by decide +kernel) (by decide +kernel), tin 945 (by decide +kernel) (by decide +kernel), tin 946 (by decide +kernel) (by decide +kernel)⟩
theorem LB_X10_setPremium : LB yX10_setPremium cX10_setPremium 5 (some .int) 3 := ⟨tin 954 (by decide +kernel) (by decide +kernel), tin 8 (by decide +kernel) (by decide +kernel), by decide, by decide, by decide, by decide +kernel⟩
theorem lk_L_109 : Cond.methodLink RL 109 yX10_setPremium ∈ tblG ∧ Cond.instanceMethod yX10_setPremium ∈ tblG ∧ Cond.selects yX10_setPremium.cls yX10_setPremium yX10_setPremium ∈ tblG := ⟨tin 951 (by decide +kernel) (by decide +kernel), tin 952 (by decide +kernel) (by decide +kernel), tin 953 (by decide +kernel) (by decide +kernel)⟩
theorem LB_X10_setRack : LB yX10_setRack cX10_setRack 3 (some .int) 1 := ⟨tin 963 (by decide +kernel) (by decide +kernel), tin 8 (by decide +kernel) (by decide +kernel), by decide, by decide, by decide, by decide +kernel⟩
theorem lk_L_112 : Cond.methodLink RL 112 yX10_setRack ∈ tblG ∧ Cond.instanceMethod yX10_setRack ∈ tblG ∧ Cond.selects yX10_setRack.cls yX10_setRack yX10_setRack ∈ tblG := ⟨tin 960 (by decide +kernel) (by decide +kernel), tin 961 (by decide +kernel) (by decide +kernel), tin 962 (by decide +kernel) (by decide +kernel)⟩
theorem LB_X10_setTile : LB yX10_setTile cX10_setTile 5 (some .int) 3 := ⟨tin 970 (by decide +kernel) (by decide +kernel), tin 8 (by decide +kernel) (by decide +kernel), by decide, by decide, by decide, by decide +kernel⟩
theorem lk_L_115 : Cond.methodLink RL 115 yX10_setTile ∈ tblG ∧ Cond.instanceMethod yX10_setTile ∈ tblG ∧ Cond.selects yX10_setTile.cls yX10_setTile yX10_setTile ∈ tblG := ⟨tin 967 (by decide +kernel) (by decide +kernel), tin 968 (by decide +kernel) (by decide +kernel), tin 969 (by decide +kernel) (by decide +kernel)⟩
theorem LB_X10_tileAt : LB yX10_tileAt cX10_tileAt 3 (some .int) 2 := ⟨tin 974 (by decide +kernel) (by decide +kernel), tin 8 (by decide +kernel) (by decide +kernel), by decide, by decide, by decide, by decide +kernel⟩
theorem lk_L_119 : Cond.methodLink RL 119 yX10_tileAt ∈ tblG ∧ Cond.instanceMethod yX10_tileAt ∈ tblG ∧ Cond.selects yX10_tileAt.cls yX10_tileAt yX10_tileAt ∈ tblG := ⟨tin 971 (by decide +kernel) (by decide +kernel), tin 972 (by decide +kernel) (by decide +kernel), tin 973 (by decide +kernel) (by decide +kernel)⟩
theorem LB_X10_onRack : LB yX10_onRack cX10_onRack 3 (some .int) 2 := ⟨tin 978 (by decide +kernel) (by decide +kernel), tin 8 (by decide +kernel) (by decide +kernel), by decide, by decide, by decide, by decide +kernel⟩
theorem lk_L_122 : Cond.methodLink RL 122 yX10_onRack ∈ tblG ∧ Cond.instanceMethod yX10_onRack ∈ tblG ∧ Cond.selects yX10_onRack.cls yX10_onRack yX10_onRack ∈ tblG := ⟨tin 975 (by decide +kernel) (by decide +kernel), tin 976 (by decide +kernel) (by decide +kernel), tin 977 (by decide +kernel) (by decide +kernel)⟩
theorem LB_X10_score : LB yX10_score cX10_score 2 (some .int) 1 := ⟨tin 982 (by decide +kernel) (by decide +kernel), tin 8 (by decide +kernel) (by decide +kernel), by decide, by decide, by decide, by decide +kernel⟩
theorem lk_L_125 : Cond.methodLink RL 125 yX10_score ∈ tblG ∧ Cond.instanceMethod yX10_score ∈ tblG ∧ Cond.selects yX10_score.cls yX10_score yX10_score ∈ tblG := ⟨tin 979 (by decide +kernel) (by decide +kernel), tin 980 (by decide +kernel) (by decide +kernel), tin 981 (by decide +kernel) (by decide +kernel)⟩
theorem LB_X10_crossSet : LB yX10_crossSet cX10_crossSet 4 (some .int) 3 := ⟨tin 986 (by decide +kernel) (by decide +kernel), tin 8 (by decide +kernel) (by decide +kernel), by decide, by decide, by decide, by decide +kernel⟩
theorem lk_L_128 : Cond.methodLink RL 128 yX10_crossSet ∈ tblG ∧ Cond.instanceMethod yX10_crossSet ∈ tblG ∧ Cond.selects yX10_crossSet.cls yX10_crossSet yX10_crossSet ∈ tblG := ⟨tin 983 (by decide +kernel) (by decide +kernel), tin 984 (by decide +kernel) (by decide +kernel), tin 985 (by decide +kernel) (by decide +kernel)⟩
theorem lk_L_129 : Cond.methodLink RL 129 yX9_anchors ∈ tblG ∧ Cond.instanceMethod yX9_anchors ∈ tblG ∧ Cond.selects yX9_anchors.cls yX9_anchors yX9_anchors ∈ tblG := ⟨tin 164 (by decide +kernel) (by decide +kernel), tin 165 (by decide +kernel) (by decide +kernel), tin 166 (by decide +kernel) (by decide +kernel)⟩
theorem LB_X10_anchors : LB yX10_anchors cX10_anchors 1 (some .int) 0 := ⟨tin 1010 (by decide +kernel) (by decide +kernel), tin 8 (by decide +kernel) (by decide +kernel), by decide, by decide, by decide, by decide +kernel⟩
theorem lk_L_132 : Cond.methodLink RL 132 yX10_anchors ∈ tblG ∧ Cond.instanceMethod yX10_anchors ∈ tblG ∧ Cond.selects yX10_anchors.cls yX10_anchors yX10_anchors ∈ tblG := ⟨tin 1007 (by decide +kernel) (by decide +kernel), tin 1008 (by decide +kernel) (by decide +kernel), tin 1009 (by decide +kernel) (by decide +kernel)⟩
theorem LB_X10_isAnchor : LB yX10_isAnchor cX10_isAnchor 3 (some .boolean) 2 := ⟨tin 1026 (by decide +kernel) (by decide +kernel), tin 8 (by decide +kernel) (by decide +kernel), by decide, by decide, by decide, by decide +kernel⟩
theorem lk_L_135 : Cond.methodLink RL 135 yX10_isAnchor ∈ tblG ∧ Cond.instanceMethod yX10_isAnchor ∈ tblG ∧ Cond.selects yX10_isAnchor.cls yX10_isAnchor yX10_isAnchor ∈ tblG := ⟨tin 1023 (by decide +kernel) (by decide +kernel), tin 1024 (by decide +kernel) (by decide +kernel), tin 1025 (by decide +kernel) (by decide +kernel)⟩
theorem LB_X10_check : LB yX10_check cX10_check 5 (some .int) 4 := ⟨tin 1030 (by decide +kernel) (by decide +kernel), tin 8 (by decide +kernel) (by decide +kernel), by decide, by decide, by decide, by decide +kernel⟩
theorem lk_L_139 : Cond.methodLink RL 139 yX10_check ∈ tblG ∧ Cond.instanceMethod yX10_check ∈ tblG ∧ Cond.selects yX10_check.cls yX10_check yX10_check ∈ tblG := ⟨tin 1027 (by decide +kernel) (by decide +kernel), tin 1028 (by decide +kernel) (by decide +kernel), tin 1029 (by decide +kernel) (by decide +kernel)⟩
theorem LB_X10_play : LB yX10_play cX10_play 7 (some .int) 4 := ⟨tin 1053 (by decide +kernel) (by decide +kernel), tin 8 (by decide +kernel) (by decide +kernel), by decide, by decide, by decide, by decide +kernel⟩
theorem lk_L_142 : Cond.methodLink RL 142 yX10_play ∈ tblG ∧ Cond.instanceMethod yX10_play ∈ tblG ∧ Cond.selects yX10_play.cls yX10_play yX10_play ∈ tblG := ⟨tin 1050 (by decide +kernel) (by decide +kernel), tin 1051 (by decide +kernel) (by decide +kernel), tin 1052 (by decide +kernel) (by decide +kernel)⟩
theorem LB_X10_plays : LB yX10_plays cX10_plays 2 (some .int) 1 := ⟨tin 1083 (by decide +kernel) (by decide +kernel), tin 8 (by decide +kernel) (by decide +kernel), by decide, by decide, by decide, by decide +kernel⟩
theorem lk_L_145 : Cond.methodLink RL 145 yX10_plays ∈ tblG ∧ Cond.instanceMethod yX10_plays ∈ tblG ∧ Cond.selects yX10_plays.cls yX10_plays yX10_plays ∈ tblG := ⟨tin 1080 (by decide +kernel) (by decide +kernel), tin 1081 (by decide +kernel) (by decide +kernel), tin 1082 (by decide +kernel) (by decide +kernel)⟩
theorem LB_X10_playAt : LB yX10_playAt cX10_playAt 7 (some .int) 3 := ⟨tin 1099 (by decide +kernel) (by decide +kernel), tin 8 (by decide +kernel) (by decide +kernel), by decide, by decide, by decide, by decide +kernel⟩
theorem lk_L_148 : Cond.methodLink RL 148 yX10_playAt ∈ tblG ∧ Cond.instanceMethod yX10_playAt ∈ tblG ∧ Cond.selects yX10_playAt.cls yX10_playAt yX10_playAt ∈ tblG := ⟨tin 1096 (by decide +kernel) (by decide +kernel), tin 1097 (by decide +kernel) (by decide +kernel), tin 1098 (by decide +kernel) (by decide +kernel)⟩
theorem LB_X10_bestPlay : LB yX10_bestPlay cX10_bestPlay 2 (some .int) 1 := ⟨tin 1116 (by decide +kernel) (by decide +kernel), tin 8 (by decide +kernel) (by decide +kernel), by decide, by decide, by decide, by decide +kernel⟩
theorem lk_L_151 : Cond.methodLink RL 151 yX10_bestPlay ∈ tblG ∧ Cond.instanceMethod yX10_bestPlay ∈ tblG ∧ Cond.selects yX10_bestPlay.cls yX10_bestPlay yX10_bestPlay ∈ tblG := ⟨tin 1113 (by decide +kernel) (by decide +kernel), tin 1114 (by decide +kernel) (by decide +kernel), tin 1115 (by decide +kernel) (by decide +kernel)⟩
theorem LB_X10_playBest : LB yX10_playBest cX10_playBest 4 (some .int) 1 := ⟨tin 1124 (by decide +kernel) (by decide +kernel), tin 8 (by decide +kernel) (by decide +kernel), by decide, by decide, by decide, by decide +kernel⟩
theorem lk_L_154 : Cond.methodLink RL 154 yX10_playBest ∈ tblG ∧ Cond.instanceMethod yX10_playBest ∈ tblG ∧ Cond.selects yX10_playBest.cls yX10_playBest yX10_playBest ∈ tblG := ⟨tin 1121 (by decide +kernel) (by decide +kernel), tin 1122 (by decide +kernel) (by decide +kernel), tin 1123 (by decide +kernel) (by decide +kernel)⟩
theorem LB_X10_endgame : LB yX10_endgame cX10_endgame 3 (some .int) 1 := ⟨tin 1128 (by decide +kernel) (by decide +kernel), tin 8 (by decide +kernel) (by decide +kernel), by decide, by decide, by decide, by decide +kernel⟩
theorem lk_L_157 : Cond.methodLink RL 157 yX10_endgame ∈ tblG ∧ Cond.instanceMethod yX10_endgame ∈ tblG ∧ Cond.selects yX10_endgame.cls yX10_endgame yX10_endgame ∈ tblG := ⟨tin 1125 (by decide +kernel) (by decide +kernel), tin 1126 (by decide +kernel) (by decide +kernel), tin 1127 (by decide +kernel) (by decide +kernel)⟩
theorem LB_X10_undo : LB yX10_undo cX10_undo 2 (some .int) 0 := ⟨tin 1161 (by decide +kernel) (by decide +kernel), tin 8 (by decide +kernel) (by decide +kernel), by decide, by decide, by decide, by decide +kernel⟩
theorem lk_L_160 : Cond.methodLink RL 160 yX10_undo ∈ tblG ∧ Cond.instanceMethod yX10_undo ∈ tblG ∧ Cond.selects yX10_undo.cls yX10_undo yX10_undo ∈ tblG := ⟨tin 1158 (by decide +kernel) (by decide +kernel), tin 1159 (by decide +kernel) (by decide +kernel), tin 1160 (by decide +kernel) (by decide +kernel)⟩
theorem LB_X9_digest : LB yX9_digest cX9_digest 6 (some .long) 0 := ⟨tin 188 (by decide +kernel) (by decide +kernel), tin 1 (by decide +kernel) (by decide +kernel), by decide, by decide, by decide, by decide +kernel⟩
theorem lk_L_161 : Cond.methodLink RL 161 yX9_digest ∈ tblG ∧ Cond.instanceMethod yX9_digest ∈ tblG ∧ Cond.selects yX9_digest.cls yX9_digest yX9_digest ∈ tblG := ⟨tin 185 (by decide +kernel) (by decide +kernel), tin 186 (by decide +kernel) (by decide +kernel), tin 187 (by decide +kernel) (by decide +kernel)⟩
theorem LB_X10_digest : LB yX10_digest cX10_digest 5 (some .long) 0 := ⟨tin 1165 (by decide +kernel) (by decide +kernel), tin 8 (by decide +kernel) (by decide +kernel), by decide, by decide, by decide, by decide +kernel⟩
theorem lk_L_165 : Cond.methodLink RL 165 yX10_digest ∈ tblG ∧ Cond.instanceMethod yX10_digest ∈ tblG ∧ Cond.selects yX10_digest.cls yX10_digest yX10_digest ∈ tblG := ⟨tin 1162 (by decide +kernel) (by decide +kernel), tin 1163 (by decide +kernel) (by decide +kernel), tin 1164 (by decide +kernel) (by decide +kernel)⟩
theorem LB_X10_type : LB yX10_type cX10_type 2 (some .int) 1 := ⟨tin 904 (by decide +kernel) (by decide +kernel), tin 8 (by decide +kernel) (by decide +kernel), by decide, by decide, by decide, by decide +kernel⟩
theorem lk_L_87 : Cond.methodLink RL 87 yX10_type ∈ tblG ∧ Cond.instanceMethod yX10_type ∈ tblG ∧ Cond.selects yX10_type.cls yX10_type yX10_type ∈ tblG := ⟨tin 901 (by decide +kernel) (by decide +kernel), tin 902 (by decide +kernel) (by decide +kernel), tin 903 (by decide +kernel) (by decide +kernel)⟩
theorem LB_X10_thrown : LB yX10_thrown cX10_thrown 1 (some .int) 0 := ⟨tin 900 (by decide +kernel) (by decide +kernel), tin 8 (by decide +kernel) (by decide +kernel), by decide, by decide, by decide, by decide +kernel⟩
theorem lk_L_88 : Cond.methodLink RL 88 yX10_thrown ∈ tblG ∧ Cond.instanceMethod yX10_thrown ∈ tblG ∧ Cond.selects yX10_thrown.cls yX10_thrown yX10_thrown ∈ tblG := ⟨tin 897 (by decide +kernel) (by decide +kernel), tin 898 (by decide +kernel) (by decide +kernel), tin 899 (by decide +kernel) (by decide +kernel)⟩
theorem LB_X9_clearText : LB yX9_clearText cX9_clearText 2 (some .int) 0 := ⟨tin 152 (by decide +kernel) (by decide +kernel), tin 1 (by decide +kernel) (by decide +kernel), by decide, by decide, by decide, by decide +kernel⟩
theorem lk_L_91 : Cond.methodLink RL 91 yX9_clearText ∈ tblG ∧ Cond.instanceMethod yX9_clearText ∈ tblG ∧ Cond.selects yX9_clearText.cls yX9_clearText yX9_clearText ∈ tblG := ⟨tin 149 (by decide +kernel) (by decide +kernel), tin 150 (by decide +kernel) (by decide +kernel), tin 151 (by decide +kernel) (by decide +kernel)⟩
theorem LB_X10_clearText : LB yX10_clearText cX10_clearText 2 (some .int) 0 := ⟨tin 919 (by decide +kernel) (by decide +kernel), tin 8 (by decide +kernel) (by decide +kernel), by decide, by decide, by decide, by decide +kernel⟩
theorem lk_L_94 : Cond.methodLink RL 94 yX10_clearText ∈ tblG ∧ Cond.instanceMethod yX10_clearText ∈ tblG ∧ Cond.selects yX10_clearText.cls yX10_clearText yX10_clearText ∈ tblG := ⟨tin 916 (by decide +kernel) (by decide +kernel), tin 917 (by decide +kernel) (by decide +kernel), tin 918 (by decide +kernel) (by decide +kernel)⟩
theorem LB_X10_addWord : LB yX10_addWord cX10_addWord 3 (some .int) 0 := ⟨tin 923 (by decide +kernel) (by decide +kernel), tin 8 (by decide +kernel) (by decide +kernel), by decide, by decide, by decide, by decide +kernel⟩
theorem lk_L_98 : Cond.methodLink RL 98 yX10_addWord ∈ tblG ∧ Cond.instanceMethod yX10_addWord ∈ tblG ∧ Cond.selects yX10_addWord.cls yX10_addWord yX10_addWord ∈ tblG := ⟨tin 920 (by decide +kernel) (by decide +kernel), tin 921 (by decide +kernel) (by decide +kernel), tin 922 (by decide +kernel) (by decide +kernel)⟩
theorem lk_L_99 : Cond.methodLink RL 99 yX9_lookUp ∈ tblG ∧ Cond.instanceMethod yX9_lookUp ∈ tblG ∧ Cond.selects yX9_lookUp.cls yX9_lookUp yX9_lookUp ∈ tblG := ⟨tin 156 (by decide +kernel) (by decide +kernel), tin 157 (by decide +kernel) (by decide +kernel), tin 158 (by decide +kernel) (by decide +kernel)⟩
theorem lkL_103 : Cond.methodLink RL 103 yL_setLetter ∈ tblG ∧ Cond.static yL_setLetter ∈ tblG := ⟨tin 506 (by decide +kernel) (by decide +kernel), tin 507 (by decide +kernel) (by decide +kernel)⟩
theorem lkL_107 : Cond.methodLink RL 107 yL_setPremium ∈ tblG ∧ Cond.static yL_setPremium ∈ tblG := ⟨tin 519 (by decide +kernel) (by decide +kernel), tin 520 (by decide +kernel) (by decide +kernel)⟩
theorem lkL_110 : Cond.methodLink RL 110 yL_setRack ∈ tblG ∧ Cond.static yL_setRack ∈ tblG := ⟨tin 551 (by decide +kernel) (by decide +kernel), tin 552 (by decide +kernel) (by decide +kernel)⟩
theorem lkL_113 : Cond.methodLink RL 113 yL_setTile ∈ tblG ∧ Cond.static yL_setTile ∈ tblG := ⟨tin 573 (by decide +kernel) (by decide +kernel), tin 574 (by decide +kernel) (by decide +kernel)⟩
theorem lkL_116 : Cond.methodLink RL 116 yL_tileAt ∈ tblG ∧ Cond.static yL_tileAt ∈ tblG := ⟨tin 588 (by decide +kernel) (by decide +kernel), tin 589 (by decide +kernel) (by decide +kernel)⟩
theorem lkL_120 : Cond.methodLink RL 120 yL_onRack ∈ tblG ∧ Cond.static yL_onRack ∈ tblG := ⟨tin 595 (by decide +kernel) (by decide +kernel), tin 596 (by decide +kernel) (by decide +kernel)⟩
theorem lkL_123 : Cond.methodLink RL 123 yL_score ∈ tblG ∧ Cond.static yL_score ∈ tblG := ⟨tin 602 (by decide +kernel) (by decide +kernel), tin 603 (by decide +kernel) (by decide +kernel)⟩
theorem lkL_126 : Cond.methodLink RL 126 yL_crossSet ∈ tblG ∧ Cond.static yL_crossSet ∈ tblG := ⟨tin 609 (by decide +kernel) (by decide +kernel), tin 610 (by decide +kernel) (by decide +kernel)⟩
theorem lkL_133 : Cond.methodLink RL 133 yL_isAnchor ∈ tblG ∧ Cond.static yL_isAnchor ∈ tblG := ⟨tin 627 (by decide +kernel) (by decide +kernel), tin 628 (by decide +kernel) (by decide +kernel)⟩
theorem lkL_136 : Cond.methodLink RL 136 yL_check ∈ tblG ∧ Cond.static yL_check ∈ tblG := ⟨tin 634 (by decide +kernel) (by decide +kernel), tin 635 (by decide +kernel) (by decide +kernel)⟩
theorem lkL_140 : Cond.methodLink RL 140 yL_play ∈ tblG ∧ Cond.static yL_play ∈ tblG := ⟨tin 643 (by decide +kernel) (by decide +kernel), tin 644 (by decide +kernel) (by decide +kernel)⟩
theorem lkL_143 : Cond.methodLink RL 143 yL_plays ∈ tblG ∧ Cond.static yL_plays ∈ tblG := ⟨tin 690 (by decide +kernel) (by decide +kernel), tin 691 (by decide +kernel) (by decide +kernel)⟩
theorem lkL_146 : Cond.methodLink RL 146 yL_playAt ∈ tblG ∧ Cond.static yL_playAt ∈ tblG := ⟨tin 697 (by decide +kernel) (by decide +kernel), tin 698 (by decide +kernel) (by decide +kernel)⟩
theorem lkL_149 : Cond.methodLink RL 149 yL_bestPlay ∈ tblG ∧ Cond.static yL_bestPlay ∈ tblG := ⟨tin 727 (by decide +kernel) (by decide +kernel), tin 728 (by decide +kernel) (by decide +kernel)⟩
theorem lkL_152 : Cond.methodLink RL 152 yL_playBest ∈ tblG ∧ Cond.static yL_playBest ∈ tblG := ⟨tin 739 (by decide +kernel) (by decide +kernel), tin 740 (by decide +kernel) (by decide +kernel)⟩
theorem lkL_155 : Cond.methodLink RL 155 yL_endgame ∈ tblG ∧ Cond.static yL_endgame ∈ tblG := ⟨tin 747 (by decide +kernel) (by decide +kernel), tin 748 (by decide +kernel) (by decide +kernel)⟩
theorem lkL_158 : Cond.methodLink RL 158 yL_undo ∈ tblG ∧ Cond.static yL_undo ∈ tblG := ⟨tin 803 (by decide +kernel) (by decide +kernel), tin 804 (by decide +kernel) (by decide +kernel)⟩
theorem lkL_82 : Cond.methodLink RL 82 yL_type ∈ tblG ∧ Cond.static yL_type ∈ tblG := ⟨tin 363 (by decide +kernel) (by decide +kernel), tin 364 (by decide +kernel) (by decide +kernel)⟩
theorem lkL_95 : Cond.methodLink RL 95 yL_addWord ∈ tblG ∧ Cond.static yL_addWord ∈ tblG := ⟨tin 461 (by decide +kernel) (by decide +kernel), tin 462 (by decide +kernel) (by decide +kernel)⟩
theorem LBW_addWord : LBW yL_addWord cL_addWord 3 (some .int) [(0, 8, 11, 15)] 2 := ⟨tin 463 (by decide +kernel) (by decide +kernel), tin 0 (by decide +kernel) (by decide +kernel), by decide, by decide, by decide, by decide +kernel⟩
theorem LBW_bestPlay : LBW yL_bestPlay cL_bestPlay 4 (some .int) [(0, 9, 12, 28)] 3 := ⟨tin 729 (by decide +kernel) (by decide +kernel), tin 0 (by decide +kernel) (by decide +kernel), by decide, by decide, by decide, by decide +kernel⟩
theorem LBW_check : LBW yL_check cL_check 7 (some .int) [(0, 14, 17, 28), (0, 14, 21, 13)] 6 := ⟨tin 636 (by decide +kernel) (by decide +kernel), tin 0 (by decide +kernel) (by decide +kernel), by decide, by decide, by decide, by decide +kernel⟩
theorem LBW_crossSet : LBW yL_crossSet cL_crossSet 6 (some .int) [(0, 12, 15, 28), (0, 12, 19, 13)] 5 := ⟨tin 611 (by decide +kernel) (by decide +kernel), tin 0 (by decide +kernel) (by decide +kernel), by decide, by decide, by decide, by decide +kernel⟩
theorem LBW_endgame : LBW yL_endgame cL_endgame 4 (some .int) [(0, 9, 12, 28), (0, 9, 15, 15)] 3 := ⟨tin 749 (by decide +kernel) (by decide +kernel), tin 0 (by decide +kernel) (by decide +kernel), by decide, by decide, by decide, by decide +kernel⟩
theorem LBW_isAnchor : LBW yL_isAnchor cL_isAnchor 5 (some .int) [(0, 17, 20, 28)] 4 := ⟨tin 629 (by decide +kernel) (by decide +kernel), tin 0 (by decide +kernel) (by decide +kernel), by decide, by decide, by decide, by decide +kernel⟩
theorem LBW_onRack : LBW yL_onRack cL_onRack 5 (some .int) [(0, 10, 13, 28), (0, 10, 17, 13)] 4 := ⟨tin 597 (by decide +kernel) (by decide +kernel), tin 0 (by decide +kernel) (by decide +kernel), by decide, by decide, by decide, by decide +kernel⟩
theorem LBW_play : LBW yL_play cL_play 7 (some .int) [(0, 14, 17, 28), (0, 14, 21, 13), (0, 14, 25, 15)] 6 := ⟨tin 645 (by decide +kernel) (by decide +kernel), tin 0 (by decide +kernel) (by decide +kernel), by decide, by decide, by decide, by decide +kernel⟩
theorem LBW_playAt : LBW yL_playAt cL_playAt 6 (some .int) [(0, 12, 15, 28), (0, 12, 19, 13)] 5 := ⟨tin 699 (by decide +kernel) (by decide +kernel), tin 0 (by decide +kernel) (by decide +kernel), by decide, by decide, by decide, by decide +kernel⟩
theorem LBW_playBest : LBW yL_playBest cL_playBest 4 (some .int) [(0, 9, 12, 28), (0, 9, 15, 15)] 3 := ⟨tin 741 (by decide +kernel) (by decide +kernel), tin 0 (by decide +kernel) (by decide +kernel), by decide, by decide, by decide, by decide +kernel⟩
theorem LBW_plays : LBW yL_plays cL_plays 4 (some .int) [(0, 9, 12, 28)] 3 := ⟨tin 692 (by decide +kernel) (by decide +kernel), tin 0 (by decide +kernel) (by decide +kernel), by decide, by decide, by decide, by decide +kernel⟩
theorem LBW_score : LBW yL_score cL_score 4 (some .int) [(0, 9, 12, 28)] 3 := ⟨tin 604 (by decide +kernel) (by decide +kernel), tin 0 (by decide +kernel) (by decide +kernel), by decide, by decide, by decide, by decide +kernel⟩
theorem LBW_setLetter : LBW yL_setLetter cL_setLetter 6 (some .int) [(0, 12, 15, 13)] 5 := ⟨tin 508 (by decide +kernel) (by decide +kernel), tin 0 (by decide +kernel) (by decide +kernel), by decide, by decide, by decide, by decide +kernel⟩
theorem LBW_setPremium : LBW yL_setPremium cL_setPremium 6 (some .int) [(0, 12, 15, 28), (0, 12, 19, 13)] 5 := ⟨tin 521 (by decide +kernel) (by decide +kernel), tin 0 (by decide +kernel) (by decide +kernel), by decide, by decide, by decide, by decide +kernel⟩
theorem LBW_setRack : LBW yL_setRack cL_setRack 4 (some .int) [(0, 9, 12, 28), (0, 9, 15, 15)] 3 := ⟨tin 553 (by decide +kernel) (by decide +kernel), tin 0 (by decide +kernel) (by decide +kernel), by decide, by decide, by decide, by decide +kernel⟩
theorem LBW_setTile : LBW yL_setTile cL_setTile 6 (some .int) [(0, 12, 15, 28), (0, 12, 19, 13)] 5 := ⟨tin 575 (by decide +kernel) (by decide +kernel), tin 0 (by decide +kernel) (by decide +kernel), by decide, by decide, by decide, by decide +kernel⟩
theorem LBW_tileAt : LBW yL_tileAt cL_tileAt 5 (some .int) [(0, 10, 13, 28)] 4 := ⟨tin 590 (by decide +kernel) (by decide +kernel), tin 0 (by decide +kernel) (by decide +kernel), by decide, by decide, by decide, by decide +kernel⟩
theorem LBW_type : LBW yL_type cL_type 4 (some .int) [(0, 9, 12, 13), (0, 9, 15, 15)] 3 := ⟨tin 365 (by decide +kernel) (by decide +kernel), tin 0 (by decide +kernel) (by decide +kernel), by decide, by decide, by decide, by decide +kernel⟩
theorem LBW_undo : LBW yL_undo cL_undo 3 (some .int) [(0, 8, 11, 15)] 2 := ⟨tin 805 (by decide +kernel) (by decide +kernel), tin 0 (by decide +kernel) (by decide +kernel), by decide, by decide, by decide, by decide +kernel⟩
/-! ===== the law's loop ===== -/
abbrev S3 : Type := S2 × ((Nat → Int64) × St)
def grc {α β : Type} (l : List Nat) (r : Nat ⊕ α) (k : Option β) : Option β := match r with
  | .inl c => if c ∈ l then k else none
  | .inr _ => k
theorem grc_some {α β : Type} {l : List Nat} {r : Nat ⊕ α} {k : Option β} {z : β} (h : grc l r k = some z) : (∀ c, r = .inl c → c ∈ l) ∧ k = some z := by
  cases r with
  | inr v => exact ⟨fun c hc => (by cases hc), h⟩
  | inl c =>
    unfold grc at h
    by_cases hm : c ∈ l
    · exact ⟨fun c1 hc => (by cases hc; exact hm), (if_pos hm).symm.trans h⟩
    · cases (if_neg hm).symm.trans h
theorem wL_out (G : Gv) (ad am : Nat → Nat) (ao : Nat) (S : S3) (ts : List Tb) : (wO G ad S.1 ts ao S.2.1 ++ wM G am S.2.2)[15 + (wTs G ts).length]? = some (ao, .inl (G.2.2.2, 1, .inr (.inl S.2.1))) := by
  have h := wO_out G ad S.1 ts ao S.2.1
  rw [List.getElem?_append_left (List.getElem?_eq_some_iff.mp h).1]
  exact h
theorem sw_out23 {x : Int32} (h0 : ¬ x = 0) (h1 : ¬ x = 1) (h2 : ¬ x = 2) (h3 : ¬ x = 3) (h4 : ¬ x = 4) (h5 : ¬ x = 5) (h6 : ¬ x = 6) (h7 : ¬ x = 7) (h8 : ¬ x = 8) (h9 : ¬ x = 9) (h10 : ¬ x = 10) (h11 : ¬ x = 11) (h12 : ¬ x = 12) (h13 : ¬ x = 13) (h14 : ¬ x = 14) (h15 : ¬ x = 15) (h16 : ¬ x = 16) (h17 : ¬ x = 17) (h18 : ¬ x = 18) (h19 : ¬ x = 19) (h20 : ¬ x = 20) (h21 : ¬ x = 21) (h22 : ¬ x = 22) : x.toInt < 0 ∨ 22 < x.toInt := by
  have e0 : x.toInt ≠ 0 := fun q => h0 (Int32.toInt_inj.mp (q.trans (by decide)))
  have e1 : x.toInt ≠ 1 := fun q => h1 (Int32.toInt_inj.mp (q.trans (by decide)))
  have e2 : x.toInt ≠ 2 := fun q => h2 (Int32.toInt_inj.mp (q.trans (by decide)))
  have e3 : x.toInt ≠ 3 := fun q => h3 (Int32.toInt_inj.mp (q.trans (by decide)))
  have e4 : x.toInt ≠ 4 := fun q => h4 (Int32.toInt_inj.mp (q.trans (by decide)))
  have e5 : x.toInt ≠ 5 := fun q => h5 (Int32.toInt_inj.mp (q.trans (by decide)))
  have e6 : x.toInt ≠ 6 := fun q => h6 (Int32.toInt_inj.mp (q.trans (by decide)))
  have e7 : x.toInt ≠ 7 := fun q => h7 (Int32.toInt_inj.mp (q.trans (by decide)))
  have e8 : x.toInt ≠ 8 := fun q => h8 (Int32.toInt_inj.mp (q.trans (by decide)))
  have e9 : x.toInt ≠ 9 := fun q => h9 (Int32.toInt_inj.mp (q.trans (by decide)))
  have e10 : x.toInt ≠ 10 := fun q => h10 (Int32.toInt_inj.mp (q.trans (by decide)))
  have e11 : x.toInt ≠ 11 := fun q => h11 (Int32.toInt_inj.mp (q.trans (by decide)))
  have e12 : x.toInt ≠ 12 := fun q => h12 (Int32.toInt_inj.mp (q.trans (by decide)))
  have e13 : x.toInt ≠ 13 := fun q => h13 (Int32.toInt_inj.mp (q.trans (by decide)))
  have e14 : x.toInt ≠ 14 := fun q => h14 (Int32.toInt_inj.mp (q.trans (by decide)))
  have e15 : x.toInt ≠ 15 := fun q => h15 (Int32.toInt_inj.mp (q.trans (by decide)))
  have e16 : x.toInt ≠ 16 := fun q => h16 (Int32.toInt_inj.mp (q.trans (by decide)))
  have e17 : x.toInt ≠ 17 := fun q => h17 (Int32.toInt_inj.mp (q.trans (by decide)))
  have e18 : x.toInt ≠ 18 := fun q => h18 (Int32.toInt_inj.mp (q.trans (by decide)))
  have e19 : x.toInt ≠ 19 := fun q => h19 (Int32.toInt_inj.mp (q.trans (by decide)))
  have e20 : x.toInt ≠ 20 := fun q => h20 (Int32.toInt_inj.mp (q.trans (by decide)))
  have e21 : x.toInt ≠ 21 := fun q => h21 (Int32.toInt_inj.mp (q.trans (by decide)))
  have e22 : x.toInt ≠ 22 := fun q => h22 (Int32.toInt_inj.mp (q.trans (by decide)))
  omega
theorem dg143 : ∀ (n : Nat) (σ : S2) (x1 : Int64) (x3 : Int32) (q : Int64 × S2), f_X9_digest_143 n σ x1 x3 = some q → q.2 = σ := by
  intro n
  induction n with
  | zero =>
    intro σ x1 x3 q h
    cases h
  | succ n ih =>
    intro σ x1 x3 q h
    rw [f_X9_digest_143] at h
    by_cases c : (2 : Int32) ≤ x3
    · replace h := (if_pos c).symm.trans h
      obtain ⟨r1, -, h⟩ := bno_some h
      obtain ⟨r2, -, h⟩ := bno_some h
      cases h
      rfl
    · replace h := (if_neg c).symm.trans h
      obtain ⟨r3, -, h⟩ := bno_some h
      obtain ⟨r4, -, h⟩ := bno_some h
      obtain ⟨r5, -, h⟩ := bno_some h
      obtain ⟨r6, -, h⟩ := bno_some h
      exact ih _ _ _ _ h
theorem dg74 {bk : S2 → Int64 → Int32 → Option (Int64 × S2)} (hb : ∀ (σ : S2) (x1 : Int64) (x3 : Int32) (q : Int64 × S2), bk σ x1 x3 = some q → q.2 = σ) : ∀ (n : Nat) (σ : S2) (x1 : Int64) (x3 x4 : Int32) (q : Int64 × S2), f_X9_digest_74 bk n σ x1 x3 x4 = some q → q.2 = σ := by
  intro n
  induction n with
  | zero =>
    intro σ x1 x3 x4 q h
    cases h
  | succ n ih =>
    intro σ x1 x3 x4 q h
    rw [f_X9_digest_74] at h
    by_cases c : (7 : Int32) ≤ x4
    · replace h := (if_pos c).symm.trans h
      exact hb _ _ _ _ h
    · replace h := (if_neg c).symm.trans h
      obtain ⟨r3, -, h⟩ := bno_some h
      obtain ⟨r4, -, h⟩ := bno_some h
      obtain ⟨r5, -, h⟩ := bno_some h
      exact ih _ _ _ _ _ h
theorem dg65 : ∀ (n : Nat) (σ : S2) (x1 : Int64) (x3 : Int32) (q : Int64 × S2), f_X9_digest_65 n σ x1 x3 = some q → q.2 = σ := by
  intro n
  induction n with
  | zero =>
    intro σ x1 x3 q h
    cases h
  | succ n ih =>
    intro σ x1 x3 q h
    rw [f_X9_digest_65] at h
    by_cases c : (7 : Int32) ≤ x3
    · replace h := (if_pos c).symm.trans h
      exact dg143 _ _ _ _ _ h
    · replace h := (if_neg c).symm.trans h
      exact dg74 ih _ _ _ _ _ _ h
theorem dg13 : ∀ (n : Nat) (σ : S2) (x1 : Int64) (x3 : Int32) (q : Int64 × S2), f_X9_digest_13 n σ x1 x3 = some q → q.2 = σ := by
  intro n
  induction n with
  | zero =>
    intro σ x1 x3 q h
    cases h
  | succ n ih =>
    intro σ x1 x3 q h
    rw [f_X9_digest_13] at h
    by_cases c : (8 : Int32) ≤ x3
    · replace h := (if_pos c).symm.trans h
      obtain ⟨r3, -, h⟩ := bno_some h
      exact dg65 _ _ _ _ _ h
    · replace h := (if_neg c).symm.trans h
      obtain ⟨r3, -, h⟩ := bno_some h
      obtain ⟨r4, -, h⟩ := bno_some h
      exact ih _ _ _ _ h
theorem digest_same {σ : S2} {q : Int64 × S2} (h : f_X9_digest σ = some q) : q.2 = σ := by
  unfold f_X9_digest at h
  obtain ⟨r3, -, h⟩ := bno_some h
  exact dg13 _ _ _ _ _ h
theorem digest_hts {σ : S2} {q : Int64 × S2} {ts : List Tb} (h : f_X9_digest σ = some q) (hts : ts.map (fun q => q.2) = σ.2.2.2) : ts.map (fun q => q.2) = q.2.2.2.2 := by
  rw [digest_same h]
  exact hts
def f_law_c0 (bk : S3 → Int32 → Option Unit) (xs : Nat → Int32) (L : Nat) (S : S3) (x4 : Int32) : Option Unit := ixo (x4 + (1)) L (lt (xs (Int32.toNatClampNeg (x4 + (1)))) fun a1 => bno (f_X9_type S.1.1 a1) fun q2 => grc [0, 1] q2.1 (lt ((q2.2, S.1.2), (wo q2.1 S.2.1, S.2.2)) fun Z3 => ixo (x4 + (1)) L (lt (xs (Int32.toNatClampNeg (x4 + (1)))) fun a5 => bno (f_X10_type Z3.2.2 a5) fun r6 => lt (Z3.1, (Z3.2.1, r6.2)) fun Z7 => bno (f_X10_thrown Z7.2.2) fun r8 => if r8 = (wk [0, 1] q2.1) then (if (wk [0, 1] q2.1) = 0 then (if (lg_cmp (Z7.2.1 0) (Int32.toInt64 r6.1)) = 0 then (bk Z7 x4) else (none)) else (bk Z7 x4)) else (none))))
set_option maxHeartbeats 8000000 in
set_option maxRecDepth 100000 in
theorem v_law_c0 {l : Launch} {G : Gv} {b L : Nat} {xs : Nat → Int32} {ad am : Nat → Nat} {ao : Nat} {bk : S3 → Int32 → Option Unit} {ce sl : Nat} {S : S3} {ts : List Tb} {x4 : Int32} (hce : ce + 16 ≤ 601024) (hsl : sl + 256 ≤ 7293034) (hts : ts.map (fun q => q.2) = S.1.2.2.2) (hb23 : ∀ (S : S3) (ts : List Tb) (x4 : Int32), ts.map (fun q => q.2) = S.1.2.2.2 → bk S x4 = some () → VL l G b L xs (ce + 16) (sl + 256) (wO G ad S.1 ts ao S.2.1 ++ wM G am S.2.2) 1472 [(0, .ref b), (1, .ref (ad 0)), (2, .ref (am 0)), (3, .ref ao), (4, .int x4)] []) (hf : f_law_c0 bk xs L S x4 = some ()) : VL l G b L xs ce sl (wO G ad S.1 ts ao S.2.1 ++ wM G am S.2.2) 144 [(0, .ref b), (1, .ref (ad 0)), (2, .ref (am 0)), (3, .ref ao), (4, .int x4)] [] := by
  unfold f_law_c0 at hf
  refine L_aload_n 1 rfl dL_law_144 rfl ?_
  refine L_aload_n 0 rfl dL_law_145 rfl ?_
  refine L_iload 4 rfl dL_law_146 ?_
  refine L_iconst 1 dL_law_148 (by decide) ?_
  refine L_iadd dL_law_149 ?_
  obtain ⟨hi, hf⟩ := ixo_some hf
  refine L_sld hi dL_law_150 ?_
  obtain ⟨a1, ea1, hf⟩ := lt_some hf
  refine L_st (st1 := [.int a1, .ref (ad 0)]) (by rw [ea1]) ?_
  refine L_aload_n 3 rfl dL_law_151 rfl ?_
  obtain ⟨q2, hq2, hf⟩ := bno_some hf
  obtain ⟨hcq2, hf⟩ := grc_some hf
  obtain ⟨Z3, eZ3, hf⟩ := lt_some hf
  refine L_wrap (As := [.ref (ad 0), .int a1, .ref ao]) (rest := []) (k_L_type (d := 9) (Nat.le_refl _) hts hcq2 hq2) LBW_type lkL_82 (by decide) dL_law_152 rfl rfl (Nat.le_of_ble_eq_true rfl) ⟨by omega, by omega⟩ (fun w1 hw => ?_)
  obtain ⟨ts4, hts4, rfl⟩ := hw
  refine L_ws (ws1 := (wO G ad Z3.1 ts4 ao Z3.2.1 ++ wM G am Z3.2.2)) (by rw [eZ3]) ?_
  have hts4 : ts4.map (fun q => q.2) = Z3.1.2.2.2 := by rw [eZ3]; exact hts4
  refine L_istore [(0, .ref b), (1, .ref (ad 0)), (2, .ref (am 0)), (3, .ref ao), (4, .int x4), (5, .int (wk [0, 1] q2.1))] [1, 2, 3, 4, 5, 0] dL_law_155 (by decide) rfl ?_
  refine L_aload_n 2 rfl dL_law_157 rfl ?_
  refine L_aload_n 0 rfl dL_law_158 rfl ?_
  refine L_iload 4 rfl dL_law_159 ?_
  refine L_iconst 1 dL_law_161 (by decide) ?_
  refine L_iadd dL_law_162 ?_
  obtain ⟨hi, hf⟩ := ixo_some hf
  refine L_sld hi dL_law_163 ?_
  obtain ⟨a5, ea5, hf⟩ := lt_some hf
  refine L_st (st1 := [.int a5, .ref (am 0)]) (by rw [ea5]) ?_
  obtain ⟨r6, hr6, hf⟩ := bno_some hf
  refine L_cVr (wr := wO G ad Z3.1 ts4 ao Z3.2.1) (As := [.int a5]) (rest := []) (k_X10_type (d := 2) (Nat.le_refl _) hr6) LB_X10_type lk_L_87 (by decide) dL_law_164 rfl rfl (Nat.le_of_ble_eq_true rfl) (by omega) (by omega) 0 rfl ⟨rfl, rfl⟩ [.int r6.1] rfl ?_
  obtain ⟨Z7, eZ7, hf⟩ := lt_some hf
  refine L_ws (ws1 := (wO G ad Z7.1 ts4 ao Z7.2.1 ++ wM G am Z7.2.2)) (by rw [eZ7]) ?_
  have hZ7 : ts4.map (fun q => q.2) = Z7.1.2.2.2 := by rw [eZ7]; exact hts4
  refine L_istore [(0, .ref b), (1, .ref (ad 0)), (2, .ref (am 0)), (3, .ref ao), (4, .int x4), (5, .int (wk [0, 1] q2.1)), (6, .int r6.1)] [1, 2, 3, 4, 5, 6, 0] dL_law_167 (by decide) rfl ?_
  refine L_aload_n 2 rfl dL_law_169 rfl ?_
  obtain ⟨r8, hr8, hf⟩ := bno_some hf
  refine L_cVr (wr := wO G ad Z7.1 ts4 ao Z7.2.1) (As := []) (rest := []) (k_X10_thrown (d := 0) (Nat.le_refl _) hr8) LB_X10_thrown lk_L_88 (by decide) dL_law_170 rfl rfl (Nat.le_of_ble_eq_true rfl) (by omega) (by omega) 0 rfl ⟨rfl, rfl⟩ [.int r8] rfl ?_
  refine L_iload 5 rfl dL_law_173 ?_
  refine L_icmp_eq 180 dL_law_175 (by decide) (fun c10 => ?_) (fun c10 => ?_)
  · replace hf := (if_pos c10).symm.trans hf
    refine L_iload 5 rfl dL_law_180 ?_
    refine L_if_ne 197 dL_law_182 (by decide) (fun c11 => ?_) (fun c11 => ?_)
    · replace hf := (if_neg c11).symm.trans hf
      refine L_goto 1472 dL_law_197 (by decide) ?_
      refine L_lv [(0, .ref b), (1, .ref (ad 0)), (2, .ref (am 0)), (3, .ref ao), (4, .int x4)] [0, 1, 2, 3, 4] rfl ?_
      exact hb23 Z7 ts4 _ hZ7 hf
    · replace hf := (if_pos c11).symm.trans hf
      refine L_aload_n 3 rfl dL_law_185 rfl ?_
      refine L_iconst 0 dL_law_186 (by decide) ?_
      refine L_laload dL_law_187 (15 + (wTs G ts4).length) (wL_out G ad am ao Z7 ts4) vp01 ?_
      refine L_st (st1 := [.long (Z7.2.1 0)]) rfl ?_
      refine L_iload 6 rfl dL_law_188 ?_
      refine L_i2l dL_law_190 ?_
      refine L_lcmp dL_law_191 ?_
      refine L_if_eq 197 dL_law_192 (by decide) (fun c12 => ?_) (fun c12 => ?_)
      · replace hf := (if_pos c12).symm.trans hf
        refine L_goto 1472 dL_law_197 (by decide) ?_
        refine L_lv [(0, .ref b), (1, .ref (ad 0)), (2, .ref (am 0)), (3, .ref ao), (4, .int x4)] [0, 1, 2, 3, 4] rfl ?_
        exact hb23 Z7 ts4 _ hZ7 hf
      · replace hf := (if_neg c12).symm.trans hf
        refine L_iconst 0 dL_law_195 (by decide) ?_
        cases hf
  · replace hf := (if_neg c10).symm.trans hf
    refine L_iconst 0 dL_law_178 (by decide) ?_
    cases hf
def f_law_c1 (bk : S3 → Int32 → Option Unit) (xs : Nat → Int32) (L : Nat) (S : S3) (x4 : Int32) : Option Unit := bno (f_X9_clearText S.1.1) fun r1 => lt ((r1.2, S.1.2), S.2) fun Z2 => bno (f_X10_clearText Z2.2.2) fun r3 => lt (Z2.1, (Z2.2.1, r3.2)) fun Z4 => if r1.1 = r3.1 then (bk Z4 x4) else (none)
set_option maxHeartbeats 8000000 in
set_option maxRecDepth 100000 in
theorem v_law_c1 {l : Launch} {G : Gv} {b L : Nat} {xs : Nat → Int32} {ad am : Nat → Nat} {ao : Nat} {bk : S3 → Int32 → Option Unit} {ce sl : Nat} {S : S3} {ts : List Tb} {x4 : Int32} (hce : ce + 16 ≤ 601024) (hsl : sl + 256 ≤ 7293034) (hts : ts.map (fun q => q.2) = S.1.2.2.2) (hb23 : ∀ (S : S3) (ts : List Tb) (x4 : Int32), ts.map (fun q => q.2) = S.1.2.2.2 → bk S x4 = some () → VL l G b L xs (ce + 16) (sl + 256) (wO G ad S.1 ts ao S.2.1 ++ wM G am S.2.2) 1472 [(0, .ref b), (1, .ref (ad 0)), (2, .ref (am 0)), (3, .ref ao), (4, .int x4)] []) (hf : f_law_c1 bk xs L S x4 = some ()) : VL l G b L xs ce sl (wO G ad S.1 ts ao S.2.1 ++ wM G am S.2.2) 200 [(0, .ref b), (1, .ref (ad 0)), (2, .ref (am 0)), (3, .ref ao), (4, .int x4)] [] := by
  unfold f_law_c1 at hf
  refine L_aload_n 1 rfl dL_law_200 rfl ?_
  obtain ⟨r1, hr1, hf⟩ := bno_some hf
  refine L_ws (ws1 := wC G ad S.1.1 ++ ((wH G ad S.1.2.1 S.1.2.2.1 ts ++ [(ao, .inl (G.2.2.2, 1, .inr (.inl S.2.1)))]) ++ wM G am S.2.2)) (by unfold wO; simp only [List.append_assoc]) ?_
  refine L_cVl (As := []) (rest := []) (k_X9_clearText (d := 1) (Nat.le_refl _) hr1) LB_X9_clearText lk_L_91 (by decide) dL_law_201 rfl rfl (Nat.le_of_ble_eq_true rfl) (by omega) (by omega) 0 rfl ⟨rfl, rfl⟩ [.int r1.1] rfl ?_
  obtain ⟨Z2, eZ2, hf⟩ := lt_some hf
  refine L_ws (ws1 := (wO G ad Z2.1 ts ao Z2.2.1 ++ wM G am Z2.2.2)) (by rw [eZ2]; unfold wO; simp only [List.append_assoc]) ?_
  have hZ2 : ts.map (fun q => q.2) = Z2.1.2.2.2 := by rw [eZ2]; exact hts
  refine L_aload_n 2 rfl dL_law_204 rfl ?_
  obtain ⟨r3, hr3, hf⟩ := bno_some hf
  refine L_cVr (wr := wO G ad Z2.1 ts ao Z2.2.1) (As := []) (rest := [.int r1.1]) (k_X10_clearText (d := 0) (Nat.le_refl _) hr3) LB_X10_clearText lk_L_94 (by decide) dL_law_205 rfl rfl (Nat.le_of_ble_eq_true rfl) (by omega) (by omega) 0 rfl ⟨rfl, rfl⟩ [.int r3.1, .int r1.1] rfl ?_
  obtain ⟨Z4, eZ4, hf⟩ := lt_some hf
  refine L_ws (ws1 := (wO G ad Z4.1 ts ao Z4.2.1 ++ wM G am Z4.2.2)) (by rw [eZ4]) ?_
  have hZ4 : ts.map (fun q => q.2) = Z4.1.2.2.2 := by rw [eZ4]; exact hZ2
  refine L_icmp_eq 1472 dL_law_208 (by decide) (fun c5 => ?_) (fun c5 => ?_)
  · replace hf := (if_pos c5).symm.trans hf
    refine L_widen (ce1 := ce + 16) (sl1 := sl + 256) (by omega) (by omega) ?_
    exact hb23 Z4 ts _ hZ4 hf
  · replace hf := (if_neg c5).symm.trans hf
    refine L_iconst 0 dL_law_211 (by decide) ?_
    cases hf
def f_law_c2 (bk : S3 → Int32 → Option Unit) (xs : Nat → Int32) (L : Nat) (S : S3) (x4 : Int32) : Option Unit := bno (f_X9_addWord S.1) fun q1 => grc [1] q1.1 (lt (q1.2, (wo q1.1 S.2.1, S.2.2)) fun Z2 => bno (f_X10_addWord Z2.2.2) fun r4 => lt (Z2.1, (Z2.2.1, r4.2)) fun Z5 => bno (f_X10_thrown Z5.2.2) fun r6 => if r6 = (wk [1] q1.1) then (if (wk [1] q1.1) = 0 then (if (lg_cmp (Z5.2.1 0) (Int32.toInt64 r4.1)) = 0 then (bk Z5 x4) else (none)) else (bk Z5 x4)) else (none))
set_option maxHeartbeats 8000000 in
set_option maxRecDepth 100000 in
theorem v_law_c2 {l : Launch} {G : Gv} {b L : Nat} {xs : Nat → Int32} {ad am : Nat → Nat} {ao : Nat} {bk : S3 → Int32 → Option Unit} {ce sl : Nat} {S : S3} {ts : List Tb} {x4 : Int32} (hce : ce + 16 ≤ 601024) (hsl : sl + 256 ≤ 7293034) (hts : ts.map (fun q => q.2) = S.1.2.2.2) (hb23 : ∀ (S : S3) (ts : List Tb) (x4 : Int32), ts.map (fun q => q.2) = S.1.2.2.2 → bk S x4 = some () → VL l G b L xs (ce + 16) (sl + 256) (wO G ad S.1 ts ao S.2.1 ++ wM G am S.2.2) 1472 [(0, .ref b), (1, .ref (ad 0)), (2, .ref (am 0)), (3, .ref ao), (4, .int x4)] []) (hf : f_law_c2 bk xs L S x4 = some ()) : VL l G b L xs ce sl (wO G ad S.1 ts ao S.2.1 ++ wM G am S.2.2) 213 [(0, .ref b), (1, .ref (ad 0)), (2, .ref (am 0)), (3, .ref ao), (4, .int x4)] [] := by
  unfold f_law_c2 at hf
  refine L_aload_n 1 rfl dL_law_213 rfl ?_
  refine L_aload_n 3 rfl dL_law_214 rfl ?_
  obtain ⟨q1, hq1, hf⟩ := bno_some hf
  obtain ⟨hcq1, hf⟩ := grc_some hf
  obtain ⟨Z2, eZ2, hf⟩ := lt_some hf
  refine L_wrap (As := [.ref (ad 0), .ref ao]) (rest := []) (k_L_addWord (d := 9) (Nat.le_refl _) hts hcq1 hq1) LBW_addWord lkL_95 (by decide) dL_law_215 rfl rfl (Nat.le_of_ble_eq_true rfl) ⟨by omega, by omega⟩ (fun w1 hw => ?_)
  obtain ⟨ts3, hts3, rfl⟩ := hw
  refine L_ws (ws1 := (wO G ad Z2.1 ts3 ao Z2.2.1 ++ wM G am Z2.2.2)) (by rw [eZ2]) ?_
  have hts3 : ts3.map (fun q => q.2) = Z2.1.2.2.2 := by rw [eZ2]; exact hts3
  refine L_istore [(0, .ref b), (1, .ref (ad 0)), (2, .ref (am 0)), (3, .ref ao), (4, .int x4), (5, .int (wk [1] q1.1))] [1, 2, 3, 4, 5, 0] dL_law_218 (by decide) rfl ?_
  refine L_aload_n 2 rfl dL_law_220 rfl ?_
  obtain ⟨r4, hr4, hf⟩ := bno_some hf
  refine L_cVr (wr := wO G ad Z2.1 ts3 ao Z2.2.1) (As := []) (rest := []) (k_X10_addWord (d := 2) (Nat.le_refl _) hr4) LB_X10_addWord lk_L_98 (by decide) dL_law_221 rfl rfl (Nat.le_of_ble_eq_true rfl) (by omega) (by omega) 0 rfl ⟨rfl, rfl⟩ [.int r4.1] rfl ?_
  obtain ⟨Z5, eZ5, hf⟩ := lt_some hf
  refine L_ws (ws1 := (wO G ad Z5.1 ts3 ao Z5.2.1 ++ wM G am Z5.2.2)) (by rw [eZ5]) ?_
  have hZ5 : ts3.map (fun q => q.2) = Z5.1.2.2.2 := by rw [eZ5]; exact hts3
  refine L_istore [(0, .ref b), (1, .ref (ad 0)), (2, .ref (am 0)), (3, .ref ao), (4, .int x4), (5, .int (wk [1] q1.1)), (6, .int r4.1)] [1, 2, 3, 4, 5, 6, 0] dL_law_224 (by decide) rfl ?_
  refine L_aload_n 2 rfl dL_law_226 rfl ?_
  obtain ⟨r6, hr6, hf⟩ := bno_some hf
  refine L_cVr (wr := wO G ad Z5.1 ts3 ao Z5.2.1) (As := []) (rest := []) (k_X10_thrown (d := 0) (Nat.le_refl _) hr6) LB_X10_thrown lk_L_88 (by decide) dL_law_227 rfl rfl (Nat.le_of_ble_eq_true rfl) (by omega) (by omega) 0 rfl ⟨rfl, rfl⟩ [.int r6] rfl ?_
  refine L_iload 5 rfl dL_law_230 ?_
  refine L_icmp_eq 237 dL_law_232 (by decide) (fun c8 => ?_) (fun c8 => ?_)
  · replace hf := (if_pos c8).symm.trans hf
    refine L_iload 5 rfl dL_law_237 ?_
    refine L_if_ne 254 dL_law_239 (by decide) (fun c9 => ?_) (fun c9 => ?_)
    · replace hf := (if_neg c9).symm.trans hf
      refine L_goto 1472 dL_law_254 (by decide) ?_
      refine L_lv [(0, .ref b), (1, .ref (ad 0)), (2, .ref (am 0)), (3, .ref ao), (4, .int x4)] [0, 1, 2, 3, 4] rfl ?_
      exact hb23 Z5 ts3 _ hZ5 hf
    · replace hf := (if_pos c9).symm.trans hf
      refine L_aload_n 3 rfl dL_law_242 rfl ?_
      refine L_iconst 0 dL_law_243 (by decide) ?_
      refine L_laload dL_law_244 (15 + (wTs G ts3).length) (wL_out G ad am ao Z5 ts3) vp01 ?_
      refine L_st (st1 := [.long (Z5.2.1 0)]) rfl ?_
      refine L_iload 6 rfl dL_law_245 ?_
      refine L_i2l dL_law_247 ?_
      refine L_lcmp dL_law_248 ?_
      refine L_if_eq 254 dL_law_249 (by decide) (fun c10 => ?_) (fun c10 => ?_)
      · replace hf := (if_pos c10).symm.trans hf
        refine L_goto 1472 dL_law_254 (by decide) ?_
        refine L_lv [(0, .ref b), (1, .ref (ad 0)), (2, .ref (am 0)), (3, .ref ao), (4, .int x4)] [0, 1, 2, 3, 4] rfl ?_
        exact hb23 Z5 ts3 _ hZ5 hf
      · replace hf := (if_neg c10).symm.trans hf
        refine L_iconst 0 dL_law_252 (by decide) ?_
        cases hf
  · replace hf := (if_neg c8).symm.trans hf
    refine L_iconst 0 dL_law_235 (by decide) ?_
    cases hf
def f_law_c3 (bk : S3 → Int32 → Option Unit) (xs : Nat → Int32) (L : Nat) (S : S3) (x4 : Int32) : Option Unit := bno (f_X9_lookUp S.1.1) fun r1 => bno (f_X10_lookUp S.2.2) fun r3 => lt (S.1, (S.2.1, r3.2)) fun Z4 => if r1 = r3.1 then (bk Z4 x4) else (none)
set_option maxHeartbeats 8000000 in
set_option maxRecDepth 100000 in
theorem v_law_c3 {l : Launch} {G : Gv} {b L : Nat} {xs : Nat → Int32} {ad am : Nat → Nat} {ao : Nat} {bk : S3 → Int32 → Option Unit} {ce sl : Nat} {S : S3} {ts : List Tb} {x4 : Int32} (hce : ce + 16 ≤ 601024) (hsl : sl + 256 ≤ 7293034) (hts : ts.map (fun q => q.2) = S.1.2.2.2) (hb23 : ∀ (S : S3) (ts : List Tb) (x4 : Int32), ts.map (fun q => q.2) = S.1.2.2.2 → bk S x4 = some () → VL l G b L xs (ce + 16) (sl + 256) (wO G ad S.1 ts ao S.2.1 ++ wM G am S.2.2) 1472 [(0, .ref b), (1, .ref (ad 0)), (2, .ref (am 0)), (3, .ref ao), (4, .int x4)] []) (hf : f_law_c3 bk xs L S x4 = some ()) : VL l G b L xs ce sl (wO G ad S.1 ts ao S.2.1 ++ wM G am S.2.2) 257 [(0, .ref b), (1, .ref (ad 0)), (2, .ref (am 0)), (3, .ref ao), (4, .int x4)] [] := by
  unfold f_law_c3 at hf
  refine L_aload_n 1 rfl dL_law_257 rfl ?_
  obtain ⟨r1, hr1, hf⟩ := bno_some hf
  refine L_ws (ws1 := wC G ad S.1.1 ++ ((wH G ad S.1.2.1 S.1.2.2.1 ts ++ [(ao, .inl (G.2.2.2, 1, .inr (.inl S.2.1)))]) ++ wM G am S.2.2)) (by unfold wO; simp only [List.append_assoc]) ?_
  refine L_cVl (As := []) (rest := []) (k_X9_lookUp (d := 1) (Nat.le_refl _) hr1) LB_X9_lookUp lk_L_99 (by decide) dL_law_258 rfl rfl (Nat.le_of_ble_eq_true rfl) (by omega) (by omega) 0 rfl ⟨rfl, rfl⟩ [.int r1] rfl ?_
  refine L_ws (ws1 := (wO G ad S.1 ts ao S.2.1 ++ wM G am S.2.2)) (by unfold wO; simp only [List.append_assoc]) ?_
  refine L_aload_n 2 rfl dL_law_261 rfl ?_
  obtain ⟨r3, hr3, hf⟩ := bno_some hf
  refine L_cVr (wr := wO G ad S.1 ts ao S.2.1) (As := []) (rest := [.int r1]) (k_X10_lookUp (d := 2) (Nat.le_refl _) hr3) LB_X10_lookUp lk_L_102 (by decide) dL_law_262 rfl rfl (Nat.le_of_ble_eq_true rfl) (by omega) (by omega) 0 rfl ⟨rfl, rfl⟩ [.int r3.1, .int r1] rfl ?_
  obtain ⟨Z4, eZ4, hf⟩ := lt_some hf
  refine L_ws (ws1 := (wO G ad Z4.1 ts ao Z4.2.1 ++ wM G am Z4.2.2)) (by rw [eZ4]) ?_
  have hZ4 : ts.map (fun q => q.2) = Z4.1.2.2.2 := by rw [eZ4]; exact hts
  refine L_icmp_eq 1472 dL_law_265 (by decide) (fun c5 => ?_) (fun c5 => ?_)
  · replace hf := (if_pos c5).symm.trans hf
    refine L_widen (ce1 := ce + 16) (sl1 := sl + 256) (by omega) (by omega) ?_
    exact hb23 Z4 ts _ hZ4 hf
  · replace hf := (if_neg c5).symm.trans hf
    refine L_iconst 0 dL_law_268 (by decide) ?_
    cases hf
def f_law_c4 (bk : S3 → Int32 → Option Unit) (xs : Nat → Int32) (L : Nat) (S : S3) (x4 : Int32) : Option Unit := ixo (x4 + (1)) L (lt (xs (Int32.toNatClampNeg (x4 + (1)))) fun a1 => ixo (x4 + (2)) L (lt (xs (Int32.toNatClampNeg (x4 + (2)))) fun a2 => ixo (x4 + (3)) L (lt (xs (Int32.toNatClampNeg (x4 + (3)))) fun a3 => bno (f_X9_setLetter S.1 a1 a2 a3) fun q4 => grc [0] q4.1 (lt (q4.2, (wo q4.1 S.2.1, S.2.2)) fun Z5 => ixo (x4 + (1)) L (lt (xs (Int32.toNatClampNeg (x4 + (1)))) fun a7 => ixo (x4 + (2)) L (lt (xs (Int32.toNatClampNeg (x4 + (2)))) fun a8 => ixo (x4 + (3)) L (lt (xs (Int32.toNatClampNeg (x4 + (3)))) fun a9 => bno (f_X10_setLetter Z5.2.2 a7 a8 a9) fun r10 => lt (Z5.1, (Z5.2.1, r10.2)) fun Z11 => bno (f_X10_thrown Z11.2.2) fun r12 => if r12 = (wk [0] q4.1) then (if (wk [0] q4.1) = 0 then (if (lg_cmp (Z11.2.1 0) (Int32.toInt64 r10.1)) = 0 then (bk Z11 x4) else (none)) else (bk Z11 x4)) else (none))))))))
set_option maxHeartbeats 8000000 in
set_option maxRecDepth 100000 in
theorem v_law_c4 {l : Launch} {G : Gv} {b L : Nat} {xs : Nat → Int32} {ad am : Nat → Nat} {ao : Nat} {bk : S3 → Int32 → Option Unit} {ce sl : Nat} {S : S3} {ts : List Tb} {x4 : Int32} (hce : ce + 16 ≤ 601024) (hsl : sl + 256 ≤ 7293034) (hts : ts.map (fun q => q.2) = S.1.2.2.2) (hb23 : ∀ (S : S3) (ts : List Tb) (x4 : Int32), ts.map (fun q => q.2) = S.1.2.2.2 → bk S x4 = some () → VL l G b L xs (ce + 16) (sl + 256) (wO G ad S.1 ts ao S.2.1 ++ wM G am S.2.2) 1472 [(0, .ref b), (1, .ref (ad 0)), (2, .ref (am 0)), (3, .ref ao), (4, .int x4)] []) (hf : f_law_c4 bk xs L S x4 = some ()) : VL l G b L xs ce sl (wO G ad S.1 ts ao S.2.1 ++ wM G am S.2.2) 270 [(0, .ref b), (1, .ref (ad 0)), (2, .ref (am 0)), (3, .ref ao), (4, .int x4)] [] := by
  unfold f_law_c4 at hf
  refine L_aload_n 1 rfl dL_law_270 rfl ?_
  refine L_aload_n 0 rfl dL_law_271 rfl ?_
  refine L_iload 4 rfl dL_law_272 ?_
  refine L_iconst 1 dL_law_274 (by decide) ?_
  refine L_iadd dL_law_275 ?_
  obtain ⟨hi, hf⟩ := ixo_some hf
  refine L_sld hi dL_law_276 ?_
  obtain ⟨a1, ea1, hf⟩ := lt_some hf
  refine L_st (st1 := [.int a1, .ref (ad 0)]) (by rw [ea1]) ?_
  refine L_aload_n 0 rfl dL_law_277 rfl ?_
  refine L_iload 4 rfl dL_law_278 ?_
  refine L_iconst 2 dL_law_280 (by decide) ?_
  refine L_iadd dL_law_281 ?_
  obtain ⟨hi, hf⟩ := ixo_some hf
  refine L_sld hi dL_law_282 ?_
  obtain ⟨a2, ea2, hf⟩ := lt_some hf
  refine L_st (st1 := [.int a2, .int a1, .ref (ad 0)]) (by rw [ea2]) ?_
  refine L_aload_n 0 rfl dL_law_283 rfl ?_
  refine L_iload 4 rfl dL_law_284 ?_
  refine L_iconst 3 dL_law_286 (by decide) ?_
  refine L_iadd dL_law_287 ?_
  obtain ⟨hi, hf⟩ := ixo_some hf
  refine L_sld hi dL_law_288 ?_
  obtain ⟨a3, ea3, hf⟩ := lt_some hf
  refine L_st (st1 := [.int a3, .int a2, .int a1, .ref (ad 0)]) (by rw [ea3]) ?_
  refine L_aload_n 3 rfl dL_law_289 rfl ?_
  obtain ⟨q4, hq4, hf⟩ := bno_some hf
  obtain ⟨hcq4, hf⟩ := grc_some hf
  obtain ⟨Z5, eZ5, hf⟩ := lt_some hf
  refine L_wrap (As := [.ref (ad 0), .int a1, .int a2, .int a3, .ref ao]) (rest := []) (k_L_setLetter (d := 9) (Nat.le_refl _) hts hcq4 hq4) LBW_setLetter lkL_103 (by decide) dL_law_290 rfl rfl (Nat.le_of_ble_eq_true rfl) ⟨by omega, by omega⟩ (fun w1 hw => ?_)
  obtain ⟨ts6, hts6, rfl⟩ := hw
  refine L_ws (ws1 := (wO G ad Z5.1 ts6 ao Z5.2.1 ++ wM G am Z5.2.2)) (by rw [eZ5]) ?_
  have hts6 : ts6.map (fun q => q.2) = Z5.1.2.2.2 := by rw [eZ5]; exact hts6
  refine L_istore [(0, .ref b), (1, .ref (ad 0)), (2, .ref (am 0)), (3, .ref ao), (4, .int x4), (5, .int (wk [0] q4.1))] [1, 2, 3, 4, 5, 0] dL_law_293 (by decide) rfl ?_
  refine L_aload_n 2 rfl dL_law_295 rfl ?_
  refine L_aload_n 0 rfl dL_law_296 rfl ?_
  refine L_iload 4 rfl dL_law_297 ?_
  refine L_iconst 1 dL_law_299 (by decide) ?_
  refine L_iadd dL_law_300 ?_
  obtain ⟨hi, hf⟩ := ixo_some hf
  refine L_sld hi dL_law_301 ?_
  obtain ⟨a7, ea7, hf⟩ := lt_some hf
  refine L_st (st1 := [.int a7, .ref (am 0)]) (by rw [ea7]) ?_
  refine L_aload_n 0 rfl dL_law_302 rfl ?_
  refine L_iload 4 rfl dL_law_303 ?_
  refine L_iconst 2 dL_law_305 (by decide) ?_
  refine L_iadd dL_law_306 ?_
  obtain ⟨hi, hf⟩ := ixo_some hf
  refine L_sld hi dL_law_307 ?_
  obtain ⟨a8, ea8, hf⟩ := lt_some hf
  refine L_st (st1 := [.int a8, .int a7, .ref (am 0)]) (by rw [ea8]) ?_
  refine L_aload_n 0 rfl dL_law_308 rfl ?_
  refine L_iload 4 rfl dL_law_309 ?_
  refine L_iconst 3 dL_law_311 (by decide) ?_
  refine L_iadd dL_law_312 ?_
  obtain ⟨hi, hf⟩ := ixo_some hf
  refine L_sld hi dL_law_313 ?_
  obtain ⟨a9, ea9, hf⟩ := lt_some hf
  refine L_st (st1 := [.int a9, .int a8, .int a7, .ref (am 0)]) (by rw [ea9]) ?_
  obtain ⟨r10, hr10, hf⟩ := bno_some hf
  refine L_cVr (wr := wO G ad Z5.1 ts6 ao Z5.2.1) (As := [.int a7, .int a8, .int a9]) (rest := []) (k_X10_setLetter (d := 2) (Nat.le_refl _) hr10) LB_X10_setLetter lk_L_106 (by decide) dL_law_314 rfl rfl (Nat.le_of_ble_eq_true rfl) (by omega) (by omega) 0 rfl ⟨rfl, rfl⟩ [.int r10.1] rfl ?_
  obtain ⟨Z11, eZ11, hf⟩ := lt_some hf
  refine L_ws (ws1 := (wO G ad Z11.1 ts6 ao Z11.2.1 ++ wM G am Z11.2.2)) (by rw [eZ11]) ?_
  have hZ11 : ts6.map (fun q => q.2) = Z11.1.2.2.2 := by rw [eZ11]; exact hts6
  refine L_istore [(0, .ref b), (1, .ref (ad 0)), (2, .ref (am 0)), (3, .ref ao), (4, .int x4), (5, .int (wk [0] q4.1)), (6, .int r10.1)] [1, 2, 3, 4, 5, 6, 0] dL_law_317 (by decide) rfl ?_
  refine L_aload_n 2 rfl dL_law_319 rfl ?_
  obtain ⟨r12, hr12, hf⟩ := bno_some hf
  refine L_cVr (wr := wO G ad Z11.1 ts6 ao Z11.2.1) (As := []) (rest := []) (k_X10_thrown (d := 0) (Nat.le_refl _) hr12) LB_X10_thrown lk_L_88 (by decide) dL_law_320 rfl rfl (Nat.le_of_ble_eq_true rfl) (by omega) (by omega) 0 rfl ⟨rfl, rfl⟩ [.int r12] rfl ?_
  refine L_iload 5 rfl dL_law_323 ?_
  refine L_icmp_eq 330 dL_law_325 (by decide) (fun c14 => ?_) (fun c14 => ?_)
  · replace hf := (if_pos c14).symm.trans hf
    refine L_iload 5 rfl dL_law_330 ?_
    refine L_if_ne 347 dL_law_332 (by decide) (fun c15 => ?_) (fun c15 => ?_)
    · replace hf := (if_neg c15).symm.trans hf
      refine L_goto 1472 dL_law_347 (by decide) ?_
      refine L_lv [(0, .ref b), (1, .ref (ad 0)), (2, .ref (am 0)), (3, .ref ao), (4, .int x4)] [0, 1, 2, 3, 4] rfl ?_
      exact hb23 Z11 ts6 _ hZ11 hf
    · replace hf := (if_pos c15).symm.trans hf
      refine L_aload_n 3 rfl dL_law_335 rfl ?_
      refine L_iconst 0 dL_law_336 (by decide) ?_
      refine L_laload dL_law_337 (15 + (wTs G ts6).length) (wL_out G ad am ao Z11 ts6) vp01 ?_
      refine L_st (st1 := [.long (Z11.2.1 0)]) rfl ?_
      refine L_iload 6 rfl dL_law_338 ?_
      refine L_i2l dL_law_340 ?_
      refine L_lcmp dL_law_341 ?_
      refine L_if_eq 347 dL_law_342 (by decide) (fun c16 => ?_) (fun c16 => ?_)
      · replace hf := (if_pos c16).symm.trans hf
        refine L_goto 1472 dL_law_347 (by decide) ?_
        refine L_lv [(0, .ref b), (1, .ref (ad 0)), (2, .ref (am 0)), (3, .ref ao), (4, .int x4)] [0, 1, 2, 3, 4] rfl ?_
        exact hb23 Z11 ts6 _ hZ11 hf
      · replace hf := (if_neg c16).symm.trans hf
        refine L_iconst 0 dL_law_345 (by decide) ?_
        cases hf
  · replace hf := (if_neg c14).symm.trans hf
    refine L_iconst 0 dL_law_328 (by decide) ?_
    cases hf
def f_law_c5 (bk : S3 → Int32 → Option Unit) (xs : Nat → Int32) (L : Nat) (S : S3) (x4 : Int32) : Option Unit := ixo (x4 + (1)) L (lt (xs (Int32.toNatClampNeg (x4 + (1)))) fun a1 => ixo (x4 + (2)) L (lt (xs (Int32.toNatClampNeg (x4 + (2)))) fun a2 => ixo (x4 + (3)) L (lt (xs (Int32.toNatClampNeg (x4 + (3)))) fun a3 => bno (f_X9_setPremium S.1 a1 a2 a3) fun q4 => grc [2, 0] q4.1 (lt (q4.2, (wo q4.1 S.2.1, S.2.2)) fun Z5 => ixo (x4 + (1)) L (lt (xs (Int32.toNatClampNeg (x4 + (1)))) fun a7 => ixo (x4 + (2)) L (lt (xs (Int32.toNatClampNeg (x4 + (2)))) fun a8 => ixo (x4 + (3)) L (lt (xs (Int32.toNatClampNeg (x4 + (3)))) fun a9 => bno (f_X10_setPremium Z5.2.2 a7 a8 a9) fun r10 => lt (Z5.1, (Z5.2.1, r10.2)) fun Z11 => bno (f_X10_thrown Z11.2.2) fun r12 => if r12 = (wk [2, 0] q4.1) then (if (wk [2, 0] q4.1) = 0 then (if (lg_cmp (Z11.2.1 0) (Int32.toInt64 r10.1)) = 0 then (bk Z11 x4) else (none)) else (bk Z11 x4)) else (none))))))))
set_option maxHeartbeats 8000000 in
set_option maxRecDepth 100000 in
theorem v_law_c5 {l : Launch} {G : Gv} {b L : Nat} {xs : Nat → Int32} {ad am : Nat → Nat} {ao : Nat} {bk : S3 → Int32 → Option Unit} {ce sl : Nat} {S : S3} {ts : List Tb} {x4 : Int32} (hce : ce + 16 ≤ 601024) (hsl : sl + 256 ≤ 7293034) (hts : ts.map (fun q => q.2) = S.1.2.2.2) (hb23 : ∀ (S : S3) (ts : List Tb) (x4 : Int32), ts.map (fun q => q.2) = S.1.2.2.2 → bk S x4 = some () → VL l G b L xs (ce + 16) (sl + 256) (wO G ad S.1 ts ao S.2.1 ++ wM G am S.2.2) 1472 [(0, .ref b), (1, .ref (ad 0)), (2, .ref (am 0)), (3, .ref ao), (4, .int x4)] []) (hf : f_law_c5 bk xs L S x4 = some ()) : VL l G b L xs ce sl (wO G ad S.1 ts ao S.2.1 ++ wM G am S.2.2) 350 [(0, .ref b), (1, .ref (ad 0)), (2, .ref (am 0)), (3, .ref ao), (4, .int x4)] [] := by
  unfold f_law_c5 at hf
  refine L_aload_n 1 rfl dL_law_350 rfl ?_
  refine L_aload_n 0 rfl dL_law_351 rfl ?_
  refine L_iload 4 rfl dL_law_352 ?_
  refine L_iconst 1 dL_law_354 (by decide) ?_
  refine L_iadd dL_law_355 ?_
  obtain ⟨hi, hf⟩ := ixo_some hf
  refine L_sld hi dL_law_356 ?_
  obtain ⟨a1, ea1, hf⟩ := lt_some hf
  refine L_st (st1 := [.int a1, .ref (ad 0)]) (by rw [ea1]) ?_
  refine L_aload_n 0 rfl dL_law_357 rfl ?_
  refine L_iload 4 rfl dL_law_358 ?_
  refine L_iconst 2 dL_law_360 (by decide) ?_
  refine L_iadd dL_law_361 ?_
  obtain ⟨hi, hf⟩ := ixo_some hf
  refine L_sld hi dL_law_362 ?_
  obtain ⟨a2, ea2, hf⟩ := lt_some hf
  refine L_st (st1 := [.int a2, .int a1, .ref (ad 0)]) (by rw [ea2]) ?_
  refine L_aload_n 0 rfl dL_law_363 rfl ?_
  refine L_iload 4 rfl dL_law_364 ?_
  refine L_iconst 3 dL_law_366 (by decide) ?_
  refine L_iadd dL_law_367 ?_
  obtain ⟨hi, hf⟩ := ixo_some hf
  refine L_sld hi dL_law_368 ?_
  obtain ⟨a3, ea3, hf⟩ := lt_some hf
  refine L_st (st1 := [.int a3, .int a2, .int a1, .ref (ad 0)]) (by rw [ea3]) ?_
  refine L_aload_n 3 rfl dL_law_369 rfl ?_
  obtain ⟨q4, hq4, hf⟩ := bno_some hf
  obtain ⟨hcq4, hf⟩ := grc_some hf
  obtain ⟨Z5, eZ5, hf⟩ := lt_some hf
  refine L_wrap (As := [.ref (ad 0), .int a1, .int a2, .int a3, .ref ao]) (rest := []) (k_L_setPremium (d := 9) (Nat.le_refl _) hts hcq4 hq4) LBW_setPremium lkL_107 (by decide) dL_law_370 rfl rfl (Nat.le_of_ble_eq_true rfl) ⟨by omega, by omega⟩ (fun w1 hw => ?_)
  obtain ⟨ts6, hts6, rfl⟩ := hw
  refine L_ws (ws1 := (wO G ad Z5.1 ts6 ao Z5.2.1 ++ wM G am Z5.2.2)) (by rw [eZ5]) ?_
  have hts6 : ts6.map (fun q => q.2) = Z5.1.2.2.2 := by rw [eZ5]; exact hts6
  refine L_istore [(0, .ref b), (1, .ref (ad 0)), (2, .ref (am 0)), (3, .ref ao), (4, .int x4), (5, .int (wk [2, 0] q4.1))] [1, 2, 3, 4, 5, 0] dL_law_373 (by decide) rfl ?_
  refine L_aload_n 2 rfl dL_law_375 rfl ?_
  refine L_aload_n 0 rfl dL_law_376 rfl ?_
  refine L_iload 4 rfl dL_law_377 ?_
  refine L_iconst 1 dL_law_379 (by decide) ?_
  refine L_iadd dL_law_380 ?_
  obtain ⟨hi, hf⟩ := ixo_some hf
  refine L_sld hi dL_law_381 ?_
  obtain ⟨a7, ea7, hf⟩ := lt_some hf
  refine L_st (st1 := [.int a7, .ref (am 0)]) (by rw [ea7]) ?_
  refine L_aload_n 0 rfl dL_law_382 rfl ?_
  refine L_iload 4 rfl dL_law_383 ?_
  refine L_iconst 2 dL_law_385 (by decide) ?_
  refine L_iadd dL_law_386 ?_
  obtain ⟨hi, hf⟩ := ixo_some hf
  refine L_sld hi dL_law_387 ?_
  obtain ⟨a8, ea8, hf⟩ := lt_some hf
  refine L_st (st1 := [.int a8, .int a7, .ref (am 0)]) (by rw [ea8]) ?_
  refine L_aload_n 0 rfl dL_law_388 rfl ?_
  refine L_iload 4 rfl dL_law_389 ?_
  refine L_iconst 3 dL_law_391 (by decide) ?_
  refine L_iadd dL_law_392 ?_
  obtain ⟨hi, hf⟩ := ixo_some hf
  refine L_sld hi dL_law_393 ?_
  obtain ⟨a9, ea9, hf⟩ := lt_some hf
  refine L_st (st1 := [.int a9, .int a8, .int a7, .ref (am 0)]) (by rw [ea9]) ?_
  obtain ⟨r10, hr10, hf⟩ := bno_some hf
  refine L_cVr (wr := wO G ad Z5.1 ts6 ao Z5.2.1) (As := [.int a7, .int a8, .int a9]) (rest := []) (k_X10_setPremium (d := 2) (Nat.le_refl _) hr10) LB_X10_setPremium lk_L_109 (by decide) dL_law_394 rfl rfl (Nat.le_of_ble_eq_true rfl) (by omega) (by omega) 0 rfl ⟨rfl, rfl⟩ [.int r10.1] rfl ?_
  obtain ⟨Z11, eZ11, hf⟩ := lt_some hf
  refine L_ws (ws1 := (wO G ad Z11.1 ts6 ao Z11.2.1 ++ wM G am Z11.2.2)) (by rw [eZ11]) ?_
  have hZ11 : ts6.map (fun q => q.2) = Z11.1.2.2.2 := by rw [eZ11]; exact hts6
  refine L_istore [(0, .ref b), (1, .ref (ad 0)), (2, .ref (am 0)), (3, .ref ao), (4, .int x4), (5, .int (wk [2, 0] q4.1)), (6, .int r10.1)] [1, 2, 3, 4, 5, 6, 0] dL_law_397 (by decide) rfl ?_
  refine L_aload_n 2 rfl dL_law_399 rfl ?_
  obtain ⟨r12, hr12, hf⟩ := bno_some hf
  refine L_cVr (wr := wO G ad Z11.1 ts6 ao Z11.2.1) (As := []) (rest := []) (k_X10_thrown (d := 0) (Nat.le_refl _) hr12) LB_X10_thrown lk_L_88 (by decide) dL_law_400 rfl rfl (Nat.le_of_ble_eq_true rfl) (by omega) (by omega) 0 rfl ⟨rfl, rfl⟩ [.int r12] rfl ?_
  refine L_iload 5 rfl dL_law_403 ?_
  refine L_icmp_eq 410 dL_law_405 (by decide) (fun c14 => ?_) (fun c14 => ?_)
  · replace hf := (if_pos c14).symm.trans hf
    refine L_iload 5 rfl dL_law_410 ?_
    refine L_if_ne 427 dL_law_412 (by decide) (fun c15 => ?_) (fun c15 => ?_)
    · replace hf := (if_neg c15).symm.trans hf
      refine L_goto 1472 dL_law_427 (by decide) ?_
      refine L_lv [(0, .ref b), (1, .ref (ad 0)), (2, .ref (am 0)), (3, .ref ao), (4, .int x4)] [0, 1, 2, 3, 4] rfl ?_
      exact hb23 Z11 ts6 _ hZ11 hf
    · replace hf := (if_pos c15).symm.trans hf
      refine L_aload_n 3 rfl dL_law_415 rfl ?_
      refine L_iconst 0 dL_law_416 (by decide) ?_
      refine L_laload dL_law_417 (15 + (wTs G ts6).length) (wL_out G ad am ao Z11 ts6) vp01 ?_
      refine L_st (st1 := [.long (Z11.2.1 0)]) rfl ?_
      refine L_iload 6 rfl dL_law_418 ?_
      refine L_i2l dL_law_420 ?_
      refine L_lcmp dL_law_421 ?_
      refine L_if_eq 427 dL_law_422 (by decide) (fun c16 => ?_) (fun c16 => ?_)
      · replace hf := (if_pos c16).symm.trans hf
        refine L_goto 1472 dL_law_427 (by decide) ?_
        refine L_lv [(0, .ref b), (1, .ref (ad 0)), (2, .ref (am 0)), (3, .ref ao), (4, .int x4)] [0, 1, 2, 3, 4] rfl ?_
        exact hb23 Z11 ts6 _ hZ11 hf
      · replace hf := (if_neg c16).symm.trans hf
        refine L_iconst 0 dL_law_425 (by decide) ?_
        cases hf
  · replace hf := (if_neg c14).symm.trans hf
    refine L_iconst 0 dL_law_408 (by decide) ?_
    cases hf
def f_law_c6 (bk : S3 → Int32 → Option Unit) (xs : Nat → Int32) (L : Nat) (S : S3) (x4 : Int32) : Option Unit := ixo (x4 + (1)) L (lt (xs (Int32.toNatClampNeg (x4 + (1)))) fun a1 => bno (f_X9_setRack S.1 a1) fun q2 => grc [2, 1] q2.1 (lt (q2.2, (wo q2.1 S.2.1, S.2.2)) fun Z3 => ixo (x4 + (1)) L (lt (xs (Int32.toNatClampNeg (x4 + (1)))) fun a5 => bno (f_X10_setRack Z3.2.2 a5) fun r6 => lt (Z3.1, (Z3.2.1, r6.2)) fun Z7 => bno (f_X10_thrown Z7.2.2) fun r8 => if r8 = (wk [2, 1] q2.1) then (if (wk [2, 1] q2.1) = 0 then (if (lg_cmp (Z7.2.1 0) (Int32.toInt64 r6.1)) = 0 then (bk Z7 x4) else (none)) else (bk Z7 x4)) else (none))))
set_option maxHeartbeats 8000000 in
set_option maxRecDepth 100000 in
theorem v_law_c6 {l : Launch} {G : Gv} {b L : Nat} {xs : Nat → Int32} {ad am : Nat → Nat} {ao : Nat} {bk : S3 → Int32 → Option Unit} {ce sl : Nat} {S : S3} {ts : List Tb} {x4 : Int32} (hce : ce + 16 ≤ 601024) (hsl : sl + 256 ≤ 7293034) (hts : ts.map (fun q => q.2) = S.1.2.2.2) (hb23 : ∀ (S : S3) (ts : List Tb) (x4 : Int32), ts.map (fun q => q.2) = S.1.2.2.2 → bk S x4 = some () → VL l G b L xs (ce + 16) (sl + 256) (wO G ad S.1 ts ao S.2.1 ++ wM G am S.2.2) 1472 [(0, .ref b), (1, .ref (ad 0)), (2, .ref (am 0)), (3, .ref ao), (4, .int x4)] []) (hf : f_law_c6 bk xs L S x4 = some ()) : VL l G b L xs ce sl (wO G ad S.1 ts ao S.2.1 ++ wM G am S.2.2) 430 [(0, .ref b), (1, .ref (ad 0)), (2, .ref (am 0)), (3, .ref ao), (4, .int x4)] [] := by
  unfold f_law_c6 at hf
  refine L_aload_n 1 rfl dL_law_430 rfl ?_
  refine L_aload_n 0 rfl dL_law_431 rfl ?_
  refine L_iload 4 rfl dL_law_432 ?_
  refine L_iconst 1 dL_law_434 (by decide) ?_
  refine L_iadd dL_law_435 ?_
  obtain ⟨hi, hf⟩ := ixo_some hf
  refine L_sld hi dL_law_436 ?_
  obtain ⟨a1, ea1, hf⟩ := lt_some hf
  refine L_st (st1 := [.int a1, .ref (ad 0)]) (by rw [ea1]) ?_
  refine L_aload_n 3 rfl dL_law_437 rfl ?_
  obtain ⟨q2, hq2, hf⟩ := bno_some hf
  obtain ⟨hcq2, hf⟩ := grc_some hf
  obtain ⟨Z3, eZ3, hf⟩ := lt_some hf
  refine L_wrap (As := [.ref (ad 0), .int a1, .ref ao]) (rest := []) (k_L_setRack (d := 9) (Nat.le_refl _) hts hcq2 hq2) LBW_setRack lkL_110 (by decide) dL_law_438 rfl rfl (Nat.le_of_ble_eq_true rfl) ⟨by omega, by omega⟩ (fun w1 hw => ?_)
  obtain ⟨ts4, hts4, rfl⟩ := hw
  refine L_ws (ws1 := (wO G ad Z3.1 ts4 ao Z3.2.1 ++ wM G am Z3.2.2)) (by rw [eZ3]) ?_
  have hts4 : ts4.map (fun q => q.2) = Z3.1.2.2.2 := by rw [eZ3]; exact hts4
  refine L_istore [(0, .ref b), (1, .ref (ad 0)), (2, .ref (am 0)), (3, .ref ao), (4, .int x4), (5, .int (wk [2, 1] q2.1))] [1, 2, 3, 4, 5, 0] dL_law_441 (by decide) rfl ?_
  refine L_aload_n 2 rfl dL_law_443 rfl ?_
  refine L_aload_n 0 rfl dL_law_444 rfl ?_
  refine L_iload 4 rfl dL_law_445 ?_
  refine L_iconst 1 dL_law_447 (by decide) ?_
  refine L_iadd dL_law_448 ?_
  obtain ⟨hi, hf⟩ := ixo_some hf
  refine L_sld hi dL_law_449 ?_
  obtain ⟨a5, ea5, hf⟩ := lt_some hf
  refine L_st (st1 := [.int a5, .ref (am 0)]) (by rw [ea5]) ?_
  obtain ⟨r6, hr6, hf⟩ := bno_some hf
  refine L_cVr (wr := wO G ad Z3.1 ts4 ao Z3.2.1) (As := [.int a5]) (rest := []) (k_X10_setRack (d := 2) (Nat.le_refl _) hr6) LB_X10_setRack lk_L_112 (by decide) dL_law_450 rfl rfl (Nat.le_of_ble_eq_true rfl) (by omega) (by omega) 0 rfl ⟨rfl, rfl⟩ [.int r6.1] rfl ?_
  obtain ⟨Z7, eZ7, hf⟩ := lt_some hf
  refine L_ws (ws1 := (wO G ad Z7.1 ts4 ao Z7.2.1 ++ wM G am Z7.2.2)) (by rw [eZ7]) ?_
  have hZ7 : ts4.map (fun q => q.2) = Z7.1.2.2.2 := by rw [eZ7]; exact hts4
  refine L_istore [(0, .ref b), (1, .ref (ad 0)), (2, .ref (am 0)), (3, .ref ao), (4, .int x4), (5, .int (wk [2, 1] q2.1)), (6, .int r6.1)] [1, 2, 3, 4, 5, 6, 0] dL_law_453 (by decide) rfl ?_
  refine L_aload_n 2 rfl dL_law_455 rfl ?_
  obtain ⟨r8, hr8, hf⟩ := bno_some hf
  refine L_cVr (wr := wO G ad Z7.1 ts4 ao Z7.2.1) (As := []) (rest := []) (k_X10_thrown (d := 0) (Nat.le_refl _) hr8) LB_X10_thrown lk_L_88 (by decide) dL_law_456 rfl rfl (Nat.le_of_ble_eq_true rfl) (by omega) (by omega) 0 rfl ⟨rfl, rfl⟩ [.int r8] rfl ?_
  refine L_iload 5 rfl dL_law_459 ?_
  refine L_icmp_eq 466 dL_law_461 (by decide) (fun c10 => ?_) (fun c10 => ?_)
  · replace hf := (if_pos c10).symm.trans hf
    refine L_iload 5 rfl dL_law_466 ?_
    refine L_if_ne 483 dL_law_468 (by decide) (fun c11 => ?_) (fun c11 => ?_)
    · replace hf := (if_neg c11).symm.trans hf
      refine L_goto 1472 dL_law_483 (by decide) ?_
      refine L_lv [(0, .ref b), (1, .ref (ad 0)), (2, .ref (am 0)), (3, .ref ao), (4, .int x4)] [0, 1, 2, 3, 4] rfl ?_
      exact hb23 Z7 ts4 _ hZ7 hf
    · replace hf := (if_pos c11).symm.trans hf
      refine L_aload_n 3 rfl dL_law_471 rfl ?_
      refine L_iconst 0 dL_law_472 (by decide) ?_
      refine L_laload dL_law_473 (15 + (wTs G ts4).length) (wL_out G ad am ao Z7 ts4) vp01 ?_
      refine L_st (st1 := [.long (Z7.2.1 0)]) rfl ?_
      refine L_iload 6 rfl dL_law_474 ?_
      refine L_i2l dL_law_476 ?_
      refine L_lcmp dL_law_477 ?_
      refine L_if_eq 483 dL_law_478 (by decide) (fun c12 => ?_) (fun c12 => ?_)
      · replace hf := (if_pos c12).symm.trans hf
        refine L_goto 1472 dL_law_483 (by decide) ?_
        refine L_lv [(0, .ref b), (1, .ref (ad 0)), (2, .ref (am 0)), (3, .ref ao), (4, .int x4)] [0, 1, 2, 3, 4] rfl ?_
        exact hb23 Z7 ts4 _ hZ7 hf
      · replace hf := (if_neg c12).symm.trans hf
        refine L_iconst 0 dL_law_481 (by decide) ?_
        cases hf
  · replace hf := (if_neg c10).symm.trans hf
    refine L_iconst 0 dL_law_464 (by decide) ?_
    cases hf
def f_law_c7 (bk : S3 → Int32 → Option Unit) (xs : Nat → Int32) (L : Nat) (S : S3) (x4 : Int32) : Option Unit := ixo (x4 + (1)) L (lt (xs (Int32.toNatClampNeg (x4 + (1)))) fun a1 => ixo (x4 + (2)) L (lt (xs (Int32.toNatClampNeg (x4 + (2)))) fun a2 => ixo (x4 + (3)) L (lt (xs (Int32.toNatClampNeg (x4 + (3)))) fun a3 => bno (f_X9_setTile S.1 a1 a2 a3) fun q4 => grc [2, 0] q4.1 (lt (q4.2, (wo q4.1 S.2.1, S.2.2)) fun Z5 => ixo (x4 + (1)) L (lt (xs (Int32.toNatClampNeg (x4 + (1)))) fun a7 => ixo (x4 + (2)) L (lt (xs (Int32.toNatClampNeg (x4 + (2)))) fun a8 => ixo (x4 + (3)) L (lt (xs (Int32.toNatClampNeg (x4 + (3)))) fun a9 => bno (f_X10_setTile Z5.2.2 a7 a8 a9) fun r10 => lt (Z5.1, (Z5.2.1, r10.2)) fun Z11 => bno (f_X10_thrown Z11.2.2) fun r12 => if r12 = (wk [2, 0] q4.1) then (if (wk [2, 0] q4.1) = 0 then (if (lg_cmp (Z11.2.1 0) (Int32.toInt64 r10.1)) = 0 then (bk Z11 x4) else (none)) else (bk Z11 x4)) else (none))))))))
set_option maxHeartbeats 8000000 in
set_option maxRecDepth 100000 in
theorem v_law_c7 {l : Launch} {G : Gv} {b L : Nat} {xs : Nat → Int32} {ad am : Nat → Nat} {ao : Nat} {bk : S3 → Int32 → Option Unit} {ce sl : Nat} {S : S3} {ts : List Tb} {x4 : Int32} (hce : ce + 16 ≤ 601024) (hsl : sl + 256 ≤ 7293034) (hts : ts.map (fun q => q.2) = S.1.2.2.2) (hb23 : ∀ (S : S3) (ts : List Tb) (x4 : Int32), ts.map (fun q => q.2) = S.1.2.2.2 → bk S x4 = some () → VL l G b L xs (ce + 16) (sl + 256) (wO G ad S.1 ts ao S.2.1 ++ wM G am S.2.2) 1472 [(0, .ref b), (1, .ref (ad 0)), (2, .ref (am 0)), (3, .ref ao), (4, .int x4)] []) (hf : f_law_c7 bk xs L S x4 = some ()) : VL l G b L xs ce sl (wO G ad S.1 ts ao S.2.1 ++ wM G am S.2.2) 486 [(0, .ref b), (1, .ref (ad 0)), (2, .ref (am 0)), (3, .ref ao), (4, .int x4)] [] := by
  unfold f_law_c7 at hf
  refine L_aload_n 1 rfl dL_law_486 rfl ?_
  refine L_aload_n 0 rfl dL_law_487 rfl ?_
  refine L_iload 4 rfl dL_law_488 ?_
  refine L_iconst 1 dL_law_490 (by decide) ?_
  refine L_iadd dL_law_491 ?_
  obtain ⟨hi, hf⟩ := ixo_some hf
  refine L_sld hi dL_law_492 ?_
  obtain ⟨a1, ea1, hf⟩ := lt_some hf
  refine L_st (st1 := [.int a1, .ref (ad 0)]) (by rw [ea1]) ?_
  refine L_aload_n 0 rfl dL_law_493 rfl ?_
  refine L_iload 4 rfl dL_law_494 ?_
  refine L_iconst 2 dL_law_496 (by decide) ?_
  refine L_iadd dL_law_497 ?_
  obtain ⟨hi, hf⟩ := ixo_some hf
  refine L_sld hi dL_law_498 ?_
  obtain ⟨a2, ea2, hf⟩ := lt_some hf
  refine L_st (st1 := [.int a2, .int a1, .ref (ad 0)]) (by rw [ea2]) ?_
  refine L_aload_n 0 rfl dL_law_499 rfl ?_
  refine L_iload 4 rfl dL_law_500 ?_
  refine L_iconst 3 dL_law_502 (by decide) ?_
  refine L_iadd dL_law_503 ?_
  obtain ⟨hi, hf⟩ := ixo_some hf
  refine L_sld hi dL_law_504 ?_
  obtain ⟨a3, ea3, hf⟩ := lt_some hf
  refine L_st (st1 := [.int a3, .int a2, .int a1, .ref (ad 0)]) (by rw [ea3]) ?_
  refine L_aload_n 3 rfl dL_law_505 rfl ?_
  obtain ⟨q4, hq4, hf⟩ := bno_some hf
  obtain ⟨hcq4, hf⟩ := grc_some hf
  obtain ⟨Z5, eZ5, hf⟩ := lt_some hf
  refine L_wrap (As := [.ref (ad 0), .int a1, .int a2, .int a3, .ref ao]) (rest := []) (k_L_setTile (d := 9) (Nat.le_refl _) hts hcq4 hq4) LBW_setTile lkL_113 (by decide) dL_law_506 rfl rfl (Nat.le_of_ble_eq_true rfl) ⟨by omega, by omega⟩ (fun w1 hw => ?_)
  obtain ⟨ts6, hts6, rfl⟩ := hw
  refine L_ws (ws1 := (wO G ad Z5.1 ts6 ao Z5.2.1 ++ wM G am Z5.2.2)) (by rw [eZ5]) ?_
  have hts6 : ts6.map (fun q => q.2) = Z5.1.2.2.2 := by rw [eZ5]; exact hts6
  refine L_istore [(0, .ref b), (1, .ref (ad 0)), (2, .ref (am 0)), (3, .ref ao), (4, .int x4), (5, .int (wk [2, 0] q4.1))] [1, 2, 3, 4, 5, 0] dL_law_509 (by decide) rfl ?_
  refine L_aload_n 2 rfl dL_law_511 rfl ?_
  refine L_aload_n 0 rfl dL_law_512 rfl ?_
  refine L_iload 4 rfl dL_law_513 ?_
  refine L_iconst 1 dL_law_515 (by decide) ?_
  refine L_iadd dL_law_516 ?_
  obtain ⟨hi, hf⟩ := ixo_some hf
  refine L_sld hi dL_law_517 ?_
  obtain ⟨a7, ea7, hf⟩ := lt_some hf
  refine L_st (st1 := [.int a7, .ref (am 0)]) (by rw [ea7]) ?_
  refine L_aload_n 0 rfl dL_law_518 rfl ?_
  refine L_iload 4 rfl dL_law_519 ?_
  refine L_iconst 2 dL_law_521 (by decide) ?_
  refine L_iadd dL_law_522 ?_
  obtain ⟨hi, hf⟩ := ixo_some hf
  refine L_sld hi dL_law_523 ?_
  obtain ⟨a8, ea8, hf⟩ := lt_some hf
  refine L_st (st1 := [.int a8, .int a7, .ref (am 0)]) (by rw [ea8]) ?_
  refine L_aload_n 0 rfl dL_law_524 rfl ?_
  refine L_iload 4 rfl dL_law_525 ?_
  refine L_iconst 3 dL_law_527 (by decide) ?_
  refine L_iadd dL_law_528 ?_
  obtain ⟨hi, hf⟩ := ixo_some hf
  refine L_sld hi dL_law_529 ?_
  obtain ⟨a9, ea9, hf⟩ := lt_some hf
  refine L_st (st1 := [.int a9, .int a8, .int a7, .ref (am 0)]) (by rw [ea9]) ?_
  obtain ⟨r10, hr10, hf⟩ := bno_some hf
  refine L_cVr (wr := wO G ad Z5.1 ts6 ao Z5.2.1) (As := [.int a7, .int a8, .int a9]) (rest := []) (k_X10_setTile (d := 2) (Nat.le_refl _) hr10) LB_X10_setTile lk_L_115 (by decide) dL_law_530 rfl rfl (Nat.le_of_ble_eq_true rfl) (by omega) (by omega) 0 rfl ⟨rfl, rfl⟩ [.int r10.1] rfl ?_
  obtain ⟨Z11, eZ11, hf⟩ := lt_some hf
  refine L_ws (ws1 := (wO G ad Z11.1 ts6 ao Z11.2.1 ++ wM G am Z11.2.2)) (by rw [eZ11]) ?_
  have hZ11 : ts6.map (fun q => q.2) = Z11.1.2.2.2 := by rw [eZ11]; exact hts6
  refine L_istore [(0, .ref b), (1, .ref (ad 0)), (2, .ref (am 0)), (3, .ref ao), (4, .int x4), (5, .int (wk [2, 0] q4.1)), (6, .int r10.1)] [1, 2, 3, 4, 5, 6, 0] dL_law_533 (by decide) rfl ?_
  refine L_aload_n 2 rfl dL_law_535 rfl ?_
  obtain ⟨r12, hr12, hf⟩ := bno_some hf
  refine L_cVr (wr := wO G ad Z11.1 ts6 ao Z11.2.1) (As := []) (rest := []) (k_X10_thrown (d := 0) (Nat.le_refl _) hr12) LB_X10_thrown lk_L_88 (by decide) dL_law_536 rfl rfl (Nat.le_of_ble_eq_true rfl) (by omega) (by omega) 0 rfl ⟨rfl, rfl⟩ [.int r12] rfl ?_
  refine L_iload 5 rfl dL_law_539 ?_
  refine L_icmp_eq 546 dL_law_541 (by decide) (fun c14 => ?_) (fun c14 => ?_)
  · replace hf := (if_pos c14).symm.trans hf
    refine L_iload 5 rfl dL_law_546 ?_
    refine L_if_ne 563 dL_law_548 (by decide) (fun c15 => ?_) (fun c15 => ?_)
    · replace hf := (if_neg c15).symm.trans hf
      refine L_goto 1472 dL_law_563 (by decide) ?_
      refine L_lv [(0, .ref b), (1, .ref (ad 0)), (2, .ref (am 0)), (3, .ref ao), (4, .int x4)] [0, 1, 2, 3, 4] rfl ?_
      exact hb23 Z11 ts6 _ hZ11 hf
    · replace hf := (if_pos c15).symm.trans hf
      refine L_aload_n 3 rfl dL_law_551 rfl ?_
      refine L_iconst 0 dL_law_552 (by decide) ?_
      refine L_laload dL_law_553 (15 + (wTs G ts6).length) (wL_out G ad am ao Z11 ts6) vp01 ?_
      refine L_st (st1 := [.long (Z11.2.1 0)]) rfl ?_
      refine L_iload 6 rfl dL_law_554 ?_
      refine L_i2l dL_law_556 ?_
      refine L_lcmp dL_law_557 ?_
      refine L_if_eq 563 dL_law_558 (by decide) (fun c16 => ?_) (fun c16 => ?_)
      · replace hf := (if_pos c16).symm.trans hf
        refine L_goto 1472 dL_law_563 (by decide) ?_
        refine L_lv [(0, .ref b), (1, .ref (ad 0)), (2, .ref (am 0)), (3, .ref ao), (4, .int x4)] [0, 1, 2, 3, 4] rfl ?_
        exact hb23 Z11 ts6 _ hZ11 hf
      · replace hf := (if_neg c16).symm.trans hf
        refine L_iconst 0 dL_law_561 (by decide) ?_
        cases hf
  · replace hf := (if_neg c14).symm.trans hf
    refine L_iconst 0 dL_law_544 (by decide) ?_
    cases hf
def f_law_c8 (bk : S3 → Int32 → Option Unit) (xs : Nat → Int32) (L : Nat) (S : S3) (x4 : Int32) : Option Unit := ixo (x4 + (1)) L (lt (xs (Int32.toNatClampNeg (x4 + (1)))) fun a1 => ixo (x4 + (2)) L (lt (xs (Int32.toNatClampNeg (x4 + (2)))) fun a2 => bno (f_X9_tileAt S.1.1 a1 a2) fun q3 => grc [2] q3.1 (lt ((q3.2, S.1.2), (wo q3.1 S.2.1, S.2.2)) fun Z4 => ixo (x4 + (1)) L (lt (xs (Int32.toNatClampNeg (x4 + (1)))) fun a6 => ixo (x4 + (2)) L (lt (xs (Int32.toNatClampNeg (x4 + (2)))) fun a7 => bno (f_X10_tileAt Z4.2.2 a6 a7) fun r8 => lt (Z4.1, (Z4.2.1, r8.2)) fun Z9 => bno (f_X10_thrown Z9.2.2) fun r10 => if r10 = (wk [2] q3.1) then (if (wk [2] q3.1) = 0 then (if (lg_cmp (Z9.2.1 0) (Int32.toInt64 r8.1)) = 0 then (bk Z9 x4) else (none)) else (bk Z9 x4)) else (none))))))
set_option maxHeartbeats 8000000 in
set_option maxRecDepth 100000 in
theorem v_law_c8 {l : Launch} {G : Gv} {b L : Nat} {xs : Nat → Int32} {ad am : Nat → Nat} {ao : Nat} {bk : S3 → Int32 → Option Unit} {ce sl : Nat} {S : S3} {ts : List Tb} {x4 : Int32} (hce : ce + 16 ≤ 601024) (hsl : sl + 256 ≤ 7293034) (hts : ts.map (fun q => q.2) = S.1.2.2.2) (hb23 : ∀ (S : S3) (ts : List Tb) (x4 : Int32), ts.map (fun q => q.2) = S.1.2.2.2 → bk S x4 = some () → VL l G b L xs (ce + 16) (sl + 256) (wO G ad S.1 ts ao S.2.1 ++ wM G am S.2.2) 1472 [(0, .ref b), (1, .ref (ad 0)), (2, .ref (am 0)), (3, .ref ao), (4, .int x4)] []) (hf : f_law_c8 bk xs L S x4 = some ()) : VL l G b L xs ce sl (wO G ad S.1 ts ao S.2.1 ++ wM G am S.2.2) 566 [(0, .ref b), (1, .ref (ad 0)), (2, .ref (am 0)), (3, .ref ao), (4, .int x4)] [] := by
  unfold f_law_c8 at hf
  refine L_aload_n 1 rfl dL_law_566 rfl ?_
  refine L_aload_n 0 rfl dL_law_567 rfl ?_
  refine L_iload 4 rfl dL_law_568 ?_
  refine L_iconst 1 dL_law_570 (by decide) ?_
  refine L_iadd dL_law_571 ?_
  obtain ⟨hi, hf⟩ := ixo_some hf
  refine L_sld hi dL_law_572 ?_
  obtain ⟨a1, ea1, hf⟩ := lt_some hf
  refine L_st (st1 := [.int a1, .ref (ad 0)]) (by rw [ea1]) ?_
  refine L_aload_n 0 rfl dL_law_573 rfl ?_
  refine L_iload 4 rfl dL_law_574 ?_
  refine L_iconst 2 dL_law_576 (by decide) ?_
  refine L_iadd dL_law_577 ?_
  obtain ⟨hi, hf⟩ := ixo_some hf
  refine L_sld hi dL_law_578 ?_
  obtain ⟨a2, ea2, hf⟩ := lt_some hf
  refine L_st (st1 := [.int a2, .int a1, .ref (ad 0)]) (by rw [ea2]) ?_
  refine L_aload_n 3 rfl dL_law_579 rfl ?_
  obtain ⟨q3, hq3, hf⟩ := bno_some hf
  obtain ⟨hcq3, hf⟩ := grc_some hf
  obtain ⟨Z4, eZ4, hf⟩ := lt_some hf
  refine L_wrap (As := [.ref (ad 0), .int a1, .int a2, .ref ao]) (rest := []) (k_L_tileAt (d := 9) (Nat.le_refl _) hts hcq3 hq3) LBW_tileAt lkL_116 (by decide) dL_law_580 rfl rfl (Nat.le_of_ble_eq_true rfl) ⟨by omega, by omega⟩ (fun w1 hw => ?_)
  obtain ⟨ts5, hts5, rfl⟩ := hw
  refine L_ws (ws1 := (wO G ad Z4.1 ts5 ao Z4.2.1 ++ wM G am Z4.2.2)) (by rw [eZ4]) ?_
  have hts5 : ts5.map (fun q => q.2) = Z4.1.2.2.2 := by rw [eZ4]; exact hts5
  refine L_istore [(0, .ref b), (1, .ref (ad 0)), (2, .ref (am 0)), (3, .ref ao), (4, .int x4), (5, .int (wk [2] q3.1))] [1, 2, 3, 4, 5, 0] dL_law_583 (by decide) rfl ?_
  refine L_aload_n 2 rfl dL_law_585 rfl ?_
  refine L_aload_n 0 rfl dL_law_586 rfl ?_
  refine L_iload 4 rfl dL_law_587 ?_
  refine L_iconst 1 dL_law_589 (by decide) ?_
  refine L_iadd dL_law_590 ?_
  obtain ⟨hi, hf⟩ := ixo_some hf
  refine L_sld hi dL_law_591 ?_
  obtain ⟨a6, ea6, hf⟩ := lt_some hf
  refine L_st (st1 := [.int a6, .ref (am 0)]) (by rw [ea6]) ?_
  refine L_aload_n 0 rfl dL_law_592 rfl ?_
  refine L_iload 4 rfl dL_law_593 ?_
  refine L_iconst 2 dL_law_595 (by decide) ?_
  refine L_iadd dL_law_596 ?_
  obtain ⟨hi, hf⟩ := ixo_some hf
  refine L_sld hi dL_law_597 ?_
  obtain ⟨a7, ea7, hf⟩ := lt_some hf
  refine L_st (st1 := [.int a7, .int a6, .ref (am 0)]) (by rw [ea7]) ?_
  obtain ⟨r8, hr8, hf⟩ := bno_some hf
  refine L_cVr (wr := wO G ad Z4.1 ts5 ao Z4.2.1) (As := [.int a6, .int a7]) (rest := []) (k_X10_tileAt (d := 2) (Nat.le_refl _) hr8) LB_X10_tileAt lk_L_119 (by decide) dL_law_598 rfl rfl (Nat.le_of_ble_eq_true rfl) (by omega) (by omega) 0 rfl ⟨rfl, rfl⟩ [.int r8.1] rfl ?_
  obtain ⟨Z9, eZ9, hf⟩ := lt_some hf
  refine L_ws (ws1 := (wO G ad Z9.1 ts5 ao Z9.2.1 ++ wM G am Z9.2.2)) (by rw [eZ9]) ?_
  have hZ9 : ts5.map (fun q => q.2) = Z9.1.2.2.2 := by rw [eZ9]; exact hts5
  refine L_istore [(0, .ref b), (1, .ref (ad 0)), (2, .ref (am 0)), (3, .ref ao), (4, .int x4), (5, .int (wk [2] q3.1)), (6, .int r8.1)] [1, 2, 3, 4, 5, 6, 0] dL_law_601 (by decide) rfl ?_
  refine L_aload_n 2 rfl dL_law_603 rfl ?_
  obtain ⟨r10, hr10, hf⟩ := bno_some hf
  refine L_cVr (wr := wO G ad Z9.1 ts5 ao Z9.2.1) (As := []) (rest := []) (k_X10_thrown (d := 0) (Nat.le_refl _) hr10) LB_X10_thrown lk_L_88 (by decide) dL_law_604 rfl rfl (Nat.le_of_ble_eq_true rfl) (by omega) (by omega) 0 rfl ⟨rfl, rfl⟩ [.int r10] rfl ?_
  refine L_iload 5 rfl dL_law_607 ?_
  refine L_icmp_eq 614 dL_law_609 (by decide) (fun c12 => ?_) (fun c12 => ?_)
  · replace hf := (if_pos c12).symm.trans hf
    refine L_iload 5 rfl dL_law_614 ?_
    refine L_if_ne 631 dL_law_616 (by decide) (fun c13 => ?_) (fun c13 => ?_)
    · replace hf := (if_neg c13).symm.trans hf
      refine L_goto 1472 dL_law_631 (by decide) ?_
      refine L_lv [(0, .ref b), (1, .ref (ad 0)), (2, .ref (am 0)), (3, .ref ao), (4, .int x4)] [0, 1, 2, 3, 4] rfl ?_
      exact hb23 Z9 ts5 _ hZ9 hf
    · replace hf := (if_pos c13).symm.trans hf
      refine L_aload_n 3 rfl dL_law_619 rfl ?_
      refine L_iconst 0 dL_law_620 (by decide) ?_
      refine L_laload dL_law_621 (15 + (wTs G ts5).length) (wL_out G ad am ao Z9 ts5) vp01 ?_
      refine L_st (st1 := [.long (Z9.2.1 0)]) rfl ?_
      refine L_iload 6 rfl dL_law_622 ?_
      refine L_i2l dL_law_624 ?_
      refine L_lcmp dL_law_625 ?_
      refine L_if_eq 631 dL_law_626 (by decide) (fun c14 => ?_) (fun c14 => ?_)
      · replace hf := (if_pos c14).symm.trans hf
        refine L_goto 1472 dL_law_631 (by decide) ?_
        refine L_lv [(0, .ref b), (1, .ref (ad 0)), (2, .ref (am 0)), (3, .ref ao), (4, .int x4)] [0, 1, 2, 3, 4] rfl ?_
        exact hb23 Z9 ts5 _ hZ9 hf
      · replace hf := (if_neg c14).symm.trans hf
        refine L_iconst 0 dL_law_629 (by decide) ?_
        cases hf
  · replace hf := (if_neg c12).symm.trans hf
    refine L_iconst 0 dL_law_612 (by decide) ?_
    cases hf
def f_law_c9 (bk : S3 → Int32 → Option Unit) (xs : Nat → Int32) (L : Nat) (S : S3) (x4 : Int32) : Option Unit := ixo (x4 + (1)) L (lt (xs (Int32.toNatClampNeg (x4 + (1)))) fun a1 => ixo (x4 + (2)) L (lt (xs (Int32.toNatClampNeg (x4 + (2)))) fun a2 => bno (f_X9_onRack S.1.1 a1 a2) fun q3 => grc [2, 0] q3.1 (lt ((q3.2, S.1.2), (wo q3.1 S.2.1, S.2.2)) fun Z4 => ixo (x4 + (1)) L (lt (xs (Int32.toNatClampNeg (x4 + (1)))) fun a6 => ixo (x4 + (2)) L (lt (xs (Int32.toNatClampNeg (x4 + (2)))) fun a7 => bno (f_X10_onRack Z4.2.2 a6 a7) fun r8 => lt (Z4.1, (Z4.2.1, r8.2)) fun Z9 => bno (f_X10_thrown Z9.2.2) fun r10 => if r10 = (wk [2, 0] q3.1) then (if (wk [2, 0] q3.1) = 0 then (if (lg_cmp (Z9.2.1 0) (Int32.toInt64 r8.1)) = 0 then (bk Z9 x4) else (none)) else (bk Z9 x4)) else (none))))))
set_option maxHeartbeats 8000000 in
set_option maxRecDepth 100000 in
theorem v_law_c9 {l : Launch} {G : Gv} {b L : Nat} {xs : Nat → Int32} {ad am : Nat → Nat} {ao : Nat} {bk : S3 → Int32 → Option Unit} {ce sl : Nat} {S : S3} {ts : List Tb} {x4 : Int32} (hce : ce + 16 ≤ 601024) (hsl : sl + 256 ≤ 7293034) (hts : ts.map (fun q => q.2) = S.1.2.2.2) (hb23 : ∀ (S : S3) (ts : List Tb) (x4 : Int32), ts.map (fun q => q.2) = S.1.2.2.2 → bk S x4 = some () → VL l G b L xs (ce + 16) (sl + 256) (wO G ad S.1 ts ao S.2.1 ++ wM G am S.2.2) 1472 [(0, .ref b), (1, .ref (ad 0)), (2, .ref (am 0)), (3, .ref ao), (4, .int x4)] []) (hf : f_law_c9 bk xs L S x4 = some ()) : VL l G b L xs ce sl (wO G ad S.1 ts ao S.2.1 ++ wM G am S.2.2) 634 [(0, .ref b), (1, .ref (ad 0)), (2, .ref (am 0)), (3, .ref ao), (4, .int x4)] [] := by
  unfold f_law_c9 at hf
  refine L_aload_n 1 rfl dL_law_634 rfl ?_
  refine L_aload_n 0 rfl dL_law_635 rfl ?_
  refine L_iload 4 rfl dL_law_636 ?_
  refine L_iconst 1 dL_law_638 (by decide) ?_
  refine L_iadd dL_law_639 ?_
  obtain ⟨hi, hf⟩ := ixo_some hf
  refine L_sld hi dL_law_640 ?_
  obtain ⟨a1, ea1, hf⟩ := lt_some hf
  refine L_st (st1 := [.int a1, .ref (ad 0)]) (by rw [ea1]) ?_
  refine L_aload_n 0 rfl dL_law_641 rfl ?_
  refine L_iload 4 rfl dL_law_642 ?_
  refine L_iconst 2 dL_law_644 (by decide) ?_
  refine L_iadd dL_law_645 ?_
  obtain ⟨hi, hf⟩ := ixo_some hf
  refine L_sld hi dL_law_646 ?_
  obtain ⟨a2, ea2, hf⟩ := lt_some hf
  refine L_st (st1 := [.int a2, .int a1, .ref (ad 0)]) (by rw [ea2]) ?_
  refine L_aload_n 3 rfl dL_law_647 rfl ?_
  obtain ⟨q3, hq3, hf⟩ := bno_some hf
  obtain ⟨hcq3, hf⟩ := grc_some hf
  obtain ⟨Z4, eZ4, hf⟩ := lt_some hf
  refine L_wrap (As := [.ref (ad 0), .int a1, .int a2, .ref ao]) (rest := []) (k_L_onRack (d := 9) (Nat.le_refl _) hts hcq3 hq3) LBW_onRack lkL_120 (by decide) dL_law_648 rfl rfl (Nat.le_of_ble_eq_true rfl) ⟨by omega, by omega⟩ (fun w1 hw => ?_)
  obtain ⟨ts5, hts5, rfl⟩ := hw
  refine L_ws (ws1 := (wO G ad Z4.1 ts5 ao Z4.2.1 ++ wM G am Z4.2.2)) (by rw [eZ4]) ?_
  have hts5 : ts5.map (fun q => q.2) = Z4.1.2.2.2 := by rw [eZ4]; exact hts5
  refine L_istore [(0, .ref b), (1, .ref (ad 0)), (2, .ref (am 0)), (3, .ref ao), (4, .int x4), (5, .int (wk [2, 0] q3.1))] [1, 2, 3, 4, 5, 0] dL_law_651 (by decide) rfl ?_
  refine L_aload_n 2 rfl dL_law_653 rfl ?_
  refine L_aload_n 0 rfl dL_law_654 rfl ?_
  refine L_iload 4 rfl dL_law_655 ?_
  refine L_iconst 1 dL_law_657 (by decide) ?_
  refine L_iadd dL_law_658 ?_
  obtain ⟨hi, hf⟩ := ixo_some hf
  refine L_sld hi dL_law_659 ?_
  obtain ⟨a6, ea6, hf⟩ := lt_some hf
  refine L_st (st1 := [.int a6, .ref (am 0)]) (by rw [ea6]) ?_
  refine L_aload_n 0 rfl dL_law_660 rfl ?_
  refine L_iload 4 rfl dL_law_661 ?_
  refine L_iconst 2 dL_law_663 (by decide) ?_
  refine L_iadd dL_law_664 ?_
  obtain ⟨hi, hf⟩ := ixo_some hf
  refine L_sld hi dL_law_665 ?_
  obtain ⟨a7, ea7, hf⟩ := lt_some hf
  refine L_st (st1 := [.int a7, .int a6, .ref (am 0)]) (by rw [ea7]) ?_
  obtain ⟨r8, hr8, hf⟩ := bno_some hf
  refine L_cVr (wr := wO G ad Z4.1 ts5 ao Z4.2.1) (As := [.int a6, .int a7]) (rest := []) (k_X10_onRack (d := 2) (Nat.le_refl _) hr8) LB_X10_onRack lk_L_122 (by decide) dL_law_666 rfl rfl (Nat.le_of_ble_eq_true rfl) (by omega) (by omega) 0 rfl ⟨rfl, rfl⟩ [.int r8.1] rfl ?_
  obtain ⟨Z9, eZ9, hf⟩ := lt_some hf
  refine L_ws (ws1 := (wO G ad Z9.1 ts5 ao Z9.2.1 ++ wM G am Z9.2.2)) (by rw [eZ9]) ?_
  have hZ9 : ts5.map (fun q => q.2) = Z9.1.2.2.2 := by rw [eZ9]; exact hts5
  refine L_istore [(0, .ref b), (1, .ref (ad 0)), (2, .ref (am 0)), (3, .ref ao), (4, .int x4), (5, .int (wk [2, 0] q3.1)), (6, .int r8.1)] [1, 2, 3, 4, 5, 6, 0] dL_law_669 (by decide) rfl ?_
  refine L_aload_n 2 rfl dL_law_671 rfl ?_
  obtain ⟨r10, hr10, hf⟩ := bno_some hf
  refine L_cVr (wr := wO G ad Z9.1 ts5 ao Z9.2.1) (As := []) (rest := []) (k_X10_thrown (d := 0) (Nat.le_refl _) hr10) LB_X10_thrown lk_L_88 (by decide) dL_law_672 rfl rfl (Nat.le_of_ble_eq_true rfl) (by omega) (by omega) 0 rfl ⟨rfl, rfl⟩ [.int r10] rfl ?_
  refine L_iload 5 rfl dL_law_675 ?_
  refine L_icmp_eq 682 dL_law_677 (by decide) (fun c12 => ?_) (fun c12 => ?_)
  · replace hf := (if_pos c12).symm.trans hf
    refine L_iload 5 rfl dL_law_682 ?_
    refine L_if_ne 699 dL_law_684 (by decide) (fun c13 => ?_) (fun c13 => ?_)
    · replace hf := (if_neg c13).symm.trans hf
      refine L_goto 1472 dL_law_699 (by decide) ?_
      refine L_lv [(0, .ref b), (1, .ref (ad 0)), (2, .ref (am 0)), (3, .ref ao), (4, .int x4)] [0, 1, 2, 3, 4] rfl ?_
      exact hb23 Z9 ts5 _ hZ9 hf
    · replace hf := (if_pos c13).symm.trans hf
      refine L_aload_n 3 rfl dL_law_687 rfl ?_
      refine L_iconst 0 dL_law_688 (by decide) ?_
      refine L_laload dL_law_689 (15 + (wTs G ts5).length) (wL_out G ad am ao Z9 ts5) vp01 ?_
      refine L_st (st1 := [.long (Z9.2.1 0)]) rfl ?_
      refine L_iload 6 rfl dL_law_690 ?_
      refine L_i2l dL_law_692 ?_
      refine L_lcmp dL_law_693 ?_
      refine L_if_eq 699 dL_law_694 (by decide) (fun c14 => ?_) (fun c14 => ?_)
      · replace hf := (if_pos c14).symm.trans hf
        refine L_goto 1472 dL_law_699 (by decide) ?_
        refine L_lv [(0, .ref b), (1, .ref (ad 0)), (2, .ref (am 0)), (3, .ref ao), (4, .int x4)] [0, 1, 2, 3, 4] rfl ?_
        exact hb23 Z9 ts5 _ hZ9 hf
      · replace hf := (if_neg c14).symm.trans hf
        refine L_iconst 0 dL_law_697 (by decide) ?_
        cases hf
  · replace hf := (if_neg c12).symm.trans hf
    refine L_iconst 0 dL_law_680 (by decide) ?_
    cases hf
def f_law_c10 (bk : S3 → Int32 → Option Unit) (xs : Nat → Int32) (L : Nat) (S : S3) (x4 : Int32) : Option Unit := ixo (x4 + (1)) L (lt (xs (Int32.toNatClampNeg (x4 + (1)))) fun a1 => bno (f_X9_score S.1.1 a1) fun q2 => grc [2] q2.1 (lt ((q2.2, S.1.2), (wo q2.1 S.2.1, S.2.2)) fun Z3 => ixo (x4 + (1)) L (lt (xs (Int32.toNatClampNeg (x4 + (1)))) fun a5 => bno (f_X10_score Z3.2.2 a5) fun r6 => lt (Z3.1, (Z3.2.1, r6.2)) fun Z7 => bno (f_X10_thrown Z7.2.2) fun r8 => if r8 = (wk [2] q2.1) then (if (wk [2] q2.1) = 0 then (if (lg_cmp (Z7.2.1 0) (Int32.toInt64 r6.1)) = 0 then (bk Z7 x4) else (none)) else (bk Z7 x4)) else (none))))
set_option maxHeartbeats 8000000 in
set_option maxRecDepth 100000 in
theorem v_law_c10 {l : Launch} {G : Gv} {b L : Nat} {xs : Nat → Int32} {ad am : Nat → Nat} {ao : Nat} {bk : S3 → Int32 → Option Unit} {ce sl : Nat} {S : S3} {ts : List Tb} {x4 : Int32} (hce : ce + 16 ≤ 601024) (hsl : sl + 256 ≤ 7293034) (hts : ts.map (fun q => q.2) = S.1.2.2.2) (hb23 : ∀ (S : S3) (ts : List Tb) (x4 : Int32), ts.map (fun q => q.2) = S.1.2.2.2 → bk S x4 = some () → VL l G b L xs (ce + 16) (sl + 256) (wO G ad S.1 ts ao S.2.1 ++ wM G am S.2.2) 1472 [(0, .ref b), (1, .ref (ad 0)), (2, .ref (am 0)), (3, .ref ao), (4, .int x4)] []) (hf : f_law_c10 bk xs L S x4 = some ()) : VL l G b L xs ce sl (wO G ad S.1 ts ao S.2.1 ++ wM G am S.2.2) 702 [(0, .ref b), (1, .ref (ad 0)), (2, .ref (am 0)), (3, .ref ao), (4, .int x4)] [] := by
  unfold f_law_c10 at hf
  refine L_aload_n 1 rfl dL_law_702 rfl ?_
  refine L_aload_n 0 rfl dL_law_703 rfl ?_
  refine L_iload 4 rfl dL_law_704 ?_
  refine L_iconst 1 dL_law_706 (by decide) ?_
  refine L_iadd dL_law_707 ?_
  obtain ⟨hi, hf⟩ := ixo_some hf
  refine L_sld hi dL_law_708 ?_
  obtain ⟨a1, ea1, hf⟩ := lt_some hf
  refine L_st (st1 := [.int a1, .ref (ad 0)]) (by rw [ea1]) ?_
  refine L_aload_n 3 rfl dL_law_709 rfl ?_
  obtain ⟨q2, hq2, hf⟩ := bno_some hf
  obtain ⟨hcq2, hf⟩ := grc_some hf
  obtain ⟨Z3, eZ3, hf⟩ := lt_some hf
  refine L_wrap (As := [.ref (ad 0), .int a1, .ref ao]) (rest := []) (k_L_score (d := 9) (Nat.le_refl _) hts hcq2 hq2) LBW_score lkL_123 (by decide) dL_law_710 rfl rfl (Nat.le_of_ble_eq_true rfl) ⟨by omega, by omega⟩ (fun w1 hw => ?_)
  obtain ⟨ts4, hts4, rfl⟩ := hw
  refine L_ws (ws1 := (wO G ad Z3.1 ts4 ao Z3.2.1 ++ wM G am Z3.2.2)) (by rw [eZ3]) ?_
  have hts4 : ts4.map (fun q => q.2) = Z3.1.2.2.2 := by rw [eZ3]; exact hts4
  refine L_istore [(0, .ref b), (1, .ref (ad 0)), (2, .ref (am 0)), (3, .ref ao), (4, .int x4), (5, .int (wk [2] q2.1))] [1, 2, 3, 4, 5, 0] dL_law_713 (by decide) rfl ?_
  refine L_aload_n 2 rfl dL_law_715 rfl ?_
  refine L_aload_n 0 rfl dL_law_716 rfl ?_
  refine L_iload 4 rfl dL_law_717 ?_
  refine L_iconst 1 dL_law_719 (by decide) ?_
  refine L_iadd dL_law_720 ?_
  obtain ⟨hi, hf⟩ := ixo_some hf
  refine L_sld hi dL_law_721 ?_
  obtain ⟨a5, ea5, hf⟩ := lt_some hf
  refine L_st (st1 := [.int a5, .ref (am 0)]) (by rw [ea5]) ?_
  obtain ⟨r6, hr6, hf⟩ := bno_some hf
  refine L_cVr (wr := wO G ad Z3.1 ts4 ao Z3.2.1) (As := [.int a5]) (rest := []) (k_X10_score (d := 2) (Nat.le_refl _) hr6) LB_X10_score lk_L_125 (by decide) dL_law_722 rfl rfl (Nat.le_of_ble_eq_true rfl) (by omega) (by omega) 0 rfl ⟨rfl, rfl⟩ [.int r6.1] rfl ?_
  obtain ⟨Z7, eZ7, hf⟩ := lt_some hf
  refine L_ws (ws1 := (wO G ad Z7.1 ts4 ao Z7.2.1 ++ wM G am Z7.2.2)) (by rw [eZ7]) ?_
  have hZ7 : ts4.map (fun q => q.2) = Z7.1.2.2.2 := by rw [eZ7]; exact hts4
  refine L_istore [(0, .ref b), (1, .ref (ad 0)), (2, .ref (am 0)), (3, .ref ao), (4, .int x4), (5, .int (wk [2] q2.1)), (6, .int r6.1)] [1, 2, 3, 4, 5, 6, 0] dL_law_725 (by decide) rfl ?_
  refine L_aload_n 2 rfl dL_law_727 rfl ?_
  obtain ⟨r8, hr8, hf⟩ := bno_some hf
  refine L_cVr (wr := wO G ad Z7.1 ts4 ao Z7.2.1) (As := []) (rest := []) (k_X10_thrown (d := 0) (Nat.le_refl _) hr8) LB_X10_thrown lk_L_88 (by decide) dL_law_728 rfl rfl (Nat.le_of_ble_eq_true rfl) (by omega) (by omega) 0 rfl ⟨rfl, rfl⟩ [.int r8] rfl ?_
  refine L_iload 5 rfl dL_law_731 ?_
  refine L_icmp_eq 738 dL_law_733 (by decide) (fun c10 => ?_) (fun c10 => ?_)
  · replace hf := (if_pos c10).symm.trans hf
    refine L_iload 5 rfl dL_law_738 ?_
    refine L_if_ne 755 dL_law_740 (by decide) (fun c11 => ?_) (fun c11 => ?_)
    · replace hf := (if_neg c11).symm.trans hf
      refine L_goto 1472 dL_law_755 (by decide) ?_
      refine L_lv [(0, .ref b), (1, .ref (ad 0)), (2, .ref (am 0)), (3, .ref ao), (4, .int x4)] [0, 1, 2, 3, 4] rfl ?_
      exact hb23 Z7 ts4 _ hZ7 hf
    · replace hf := (if_pos c11).symm.trans hf
      refine L_aload_n 3 rfl dL_law_743 rfl ?_
      refine L_iconst 0 dL_law_744 (by decide) ?_
      refine L_laload dL_law_745 (15 + (wTs G ts4).length) (wL_out G ad am ao Z7 ts4) vp01 ?_
      refine L_st (st1 := [.long (Z7.2.1 0)]) rfl ?_
      refine L_iload 6 rfl dL_law_746 ?_
      refine L_i2l dL_law_748 ?_
      refine L_lcmp dL_law_749 ?_
      refine L_if_eq 755 dL_law_750 (by decide) (fun c12 => ?_) (fun c12 => ?_)
      · replace hf := (if_pos c12).symm.trans hf
        refine L_goto 1472 dL_law_755 (by decide) ?_
        refine L_lv [(0, .ref b), (1, .ref (ad 0)), (2, .ref (am 0)), (3, .ref ao), (4, .int x4)] [0, 1, 2, 3, 4] rfl ?_
        exact hb23 Z7 ts4 _ hZ7 hf
      · replace hf := (if_neg c12).symm.trans hf
        refine L_iconst 0 dL_law_753 (by decide) ?_
        cases hf
  · replace hf := (if_neg c10).symm.trans hf
    refine L_iconst 0 dL_law_736 (by decide) ?_
    cases hf
def f_law_c11 (bk : S3 → Int32 → Option Unit) (xs : Nat → Int32) (L : Nat) (S : S3) (x4 : Int32) : Option Unit := ixo (x4 + (1)) L (lt (xs (Int32.toNatClampNeg (x4 + (1)))) fun a1 => ixo (x4 + (2)) L (lt (xs (Int32.toNatClampNeg (x4 + (2)))) fun a2 => ixo (x4 + (3)) L (lt (xs (Int32.toNatClampNeg (x4 + (3)))) fun a3 => bno (f_X9_crossSet S.1.1 a1 a2 a3) fun q4 => grc [2, 0] q4.1 (lt ((q4.2, S.1.2), (wo q4.1 S.2.1, S.2.2)) fun Z5 => ixo (x4 + (1)) L (lt (xs (Int32.toNatClampNeg (x4 + (1)))) fun a7 => ixo (x4 + (2)) L (lt (xs (Int32.toNatClampNeg (x4 + (2)))) fun a8 => ixo (x4 + (3)) L (lt (xs (Int32.toNatClampNeg (x4 + (3)))) fun a9 => bno (f_X10_crossSet Z5.2.2 a7 a8 a9) fun r10 => lt (Z5.1, (Z5.2.1, r10.2)) fun Z11 => bno (f_X10_thrown Z11.2.2) fun r12 => if r12 = (wk [2, 0] q4.1) then (if (wk [2, 0] q4.1) = 0 then (if (lg_cmp (Z11.2.1 0) (Int32.toInt64 r10.1)) = 0 then (bk Z11 x4) else (none)) else (bk Z11 x4)) else (none))))))))
set_option maxHeartbeats 8000000 in
set_option maxRecDepth 100000 in
theorem v_law_c11 {l : Launch} {G : Gv} {b L : Nat} {xs : Nat → Int32} {ad am : Nat → Nat} {ao : Nat} {bk : S3 → Int32 → Option Unit} {ce sl : Nat} {S : S3} {ts : List Tb} {x4 : Int32} (hce : ce + 16 ≤ 601024) (hsl : sl + 256 ≤ 7293034) (hts : ts.map (fun q => q.2) = S.1.2.2.2) (hb23 : ∀ (S : S3) (ts : List Tb) (x4 : Int32), ts.map (fun q => q.2) = S.1.2.2.2 → bk S x4 = some () → VL l G b L xs (ce + 16) (sl + 256) (wO G ad S.1 ts ao S.2.1 ++ wM G am S.2.2) 1472 [(0, .ref b), (1, .ref (ad 0)), (2, .ref (am 0)), (3, .ref ao), (4, .int x4)] []) (hf : f_law_c11 bk xs L S x4 = some ()) : VL l G b L xs ce sl (wO G ad S.1 ts ao S.2.1 ++ wM G am S.2.2) 758 [(0, .ref b), (1, .ref (ad 0)), (2, .ref (am 0)), (3, .ref ao), (4, .int x4)] [] := by
  unfold f_law_c11 at hf
  refine L_aload_n 1 rfl dL_law_758 rfl ?_
  refine L_aload_n 0 rfl dL_law_759 rfl ?_
  refine L_iload 4 rfl dL_law_760 ?_
  refine L_iconst 1 dL_law_762 (by decide) ?_
  refine L_iadd dL_law_763 ?_
  obtain ⟨hi, hf⟩ := ixo_some hf
  refine L_sld hi dL_law_764 ?_
  obtain ⟨a1, ea1, hf⟩ := lt_some hf
  refine L_st (st1 := [.int a1, .ref (ad 0)]) (by rw [ea1]) ?_
  refine L_aload_n 0 rfl dL_law_765 rfl ?_
  refine L_iload 4 rfl dL_law_766 ?_
  refine L_iconst 2 dL_law_768 (by decide) ?_
  refine L_iadd dL_law_769 ?_
  obtain ⟨hi, hf⟩ := ixo_some hf
  refine L_sld hi dL_law_770 ?_
  obtain ⟨a2, ea2, hf⟩ := lt_some hf
  refine L_st (st1 := [.int a2, .int a1, .ref (ad 0)]) (by rw [ea2]) ?_
  refine L_aload_n 0 rfl dL_law_771 rfl ?_
  refine L_iload 4 rfl dL_law_772 ?_
  refine L_iconst 3 dL_law_774 (by decide) ?_
  refine L_iadd dL_law_775 ?_
  obtain ⟨hi, hf⟩ := ixo_some hf
  refine L_sld hi dL_law_776 ?_
  obtain ⟨a3, ea3, hf⟩ := lt_some hf
  refine L_st (st1 := [.int a3, .int a2, .int a1, .ref (ad 0)]) (by rw [ea3]) ?_
  refine L_aload_n 3 rfl dL_law_777 rfl ?_
  obtain ⟨q4, hq4, hf⟩ := bno_some hf
  obtain ⟨hcq4, hf⟩ := grc_some hf
  obtain ⟨Z5, eZ5, hf⟩ := lt_some hf
  refine L_wrap (As := [.ref (ad 0), .int a1, .int a2, .int a3, .ref ao]) (rest := []) (k_L_crossSet (d := 9) (Nat.le_refl _) hts hcq4 hq4) LBW_crossSet lkL_126 (by decide) dL_law_778 rfl rfl (Nat.le_of_ble_eq_true rfl) ⟨by omega, by omega⟩ (fun w1 hw => ?_)
  obtain ⟨ts6, hts6, rfl⟩ := hw
  refine L_ws (ws1 := (wO G ad Z5.1 ts6 ao Z5.2.1 ++ wM G am Z5.2.2)) (by rw [eZ5]) ?_
  have hts6 : ts6.map (fun q => q.2) = Z5.1.2.2.2 := by rw [eZ5]; exact hts6
  refine L_istore [(0, .ref b), (1, .ref (ad 0)), (2, .ref (am 0)), (3, .ref ao), (4, .int x4), (5, .int (wk [2, 0] q4.1))] [1, 2, 3, 4, 5, 0] dL_law_781 (by decide) rfl ?_
  refine L_aload_n 2 rfl dL_law_783 rfl ?_
  refine L_aload_n 0 rfl dL_law_784 rfl ?_
  refine L_iload 4 rfl dL_law_785 ?_
  refine L_iconst 1 dL_law_787 (by decide) ?_
  refine L_iadd dL_law_788 ?_
  obtain ⟨hi, hf⟩ := ixo_some hf
  refine L_sld hi dL_law_789 ?_
  obtain ⟨a7, ea7, hf⟩ := lt_some hf
  refine L_st (st1 := [.int a7, .ref (am 0)]) (by rw [ea7]) ?_
  refine L_aload_n 0 rfl dL_law_790 rfl ?_
  refine L_iload 4 rfl dL_law_791 ?_
  refine L_iconst 2 dL_law_793 (by decide) ?_
  refine L_iadd dL_law_794 ?_
  obtain ⟨hi, hf⟩ := ixo_some hf
  refine L_sld hi dL_law_795 ?_
  obtain ⟨a8, ea8, hf⟩ := lt_some hf
  refine L_st (st1 := [.int a8, .int a7, .ref (am 0)]) (by rw [ea8]) ?_
  refine L_aload_n 0 rfl dL_law_796 rfl ?_
  refine L_iload 4 rfl dL_law_797 ?_
  refine L_iconst 3 dL_law_799 (by decide) ?_
  refine L_iadd dL_law_800 ?_
  obtain ⟨hi, hf⟩ := ixo_some hf
  refine L_sld hi dL_law_801 ?_
  obtain ⟨a9, ea9, hf⟩ := lt_some hf
  refine L_st (st1 := [.int a9, .int a8, .int a7, .ref (am 0)]) (by rw [ea9]) ?_
  obtain ⟨r10, hr10, hf⟩ := bno_some hf
  refine L_cVr (wr := wO G ad Z5.1 ts6 ao Z5.2.1) (As := [.int a7, .int a8, .int a9]) (rest := []) (k_X10_crossSet (d := 5) (Nat.le_refl _) hr10) LB_X10_crossSet lk_L_128 (by decide) dL_law_802 rfl rfl (Nat.le_of_ble_eq_true rfl) (by omega) (by omega) 0 rfl ⟨rfl, rfl⟩ [.int r10.1] rfl ?_
  obtain ⟨Z11, eZ11, hf⟩ := lt_some hf
  refine L_ws (ws1 := (wO G ad Z11.1 ts6 ao Z11.2.1 ++ wM G am Z11.2.2)) (by rw [eZ11]) ?_
  have hZ11 : ts6.map (fun q => q.2) = Z11.1.2.2.2 := by rw [eZ11]; exact hts6
  refine L_istore [(0, .ref b), (1, .ref (ad 0)), (2, .ref (am 0)), (3, .ref ao), (4, .int x4), (5, .int (wk [2, 0] q4.1)), (6, .int r10.1)] [1, 2, 3, 4, 5, 6, 0] dL_law_805 (by decide) rfl ?_
  refine L_aload_n 2 rfl dL_law_807 rfl ?_
  obtain ⟨r12, hr12, hf⟩ := bno_some hf
  refine L_cVr (wr := wO G ad Z11.1 ts6 ao Z11.2.1) (As := []) (rest := []) (k_X10_thrown (d := 0) (Nat.le_refl _) hr12) LB_X10_thrown lk_L_88 (by decide) dL_law_808 rfl rfl (Nat.le_of_ble_eq_true rfl) (by omega) (by omega) 0 rfl ⟨rfl, rfl⟩ [.int r12] rfl ?_
  refine L_iload 5 rfl dL_law_811 ?_
  refine L_icmp_eq 818 dL_law_813 (by decide) (fun c14 => ?_) (fun c14 => ?_)
  · replace hf := (if_pos c14).symm.trans hf
    refine L_iload 5 rfl dL_law_818 ?_
    refine L_if_ne 835 dL_law_820 (by decide) (fun c15 => ?_) (fun c15 => ?_)
    · replace hf := (if_neg c15).symm.trans hf
      refine L_goto 1472 dL_law_835 (by decide) ?_
      refine L_lv [(0, .ref b), (1, .ref (ad 0)), (2, .ref (am 0)), (3, .ref ao), (4, .int x4)] [0, 1, 2, 3, 4] rfl ?_
      exact hb23 Z11 ts6 _ hZ11 hf
    · replace hf := (if_pos c15).symm.trans hf
      refine L_aload_n 3 rfl dL_law_823 rfl ?_
      refine L_iconst 0 dL_law_824 (by decide) ?_
      refine L_laload dL_law_825 (15 + (wTs G ts6).length) (wL_out G ad am ao Z11 ts6) vp01 ?_
      refine L_st (st1 := [.long (Z11.2.1 0)]) rfl ?_
      refine L_iload 6 rfl dL_law_826 ?_
      refine L_i2l dL_law_828 ?_
      refine L_lcmp dL_law_829 ?_
      refine L_if_eq 835 dL_law_830 (by decide) (fun c16 => ?_) (fun c16 => ?_)
      · replace hf := (if_pos c16).symm.trans hf
        refine L_goto 1472 dL_law_835 (by decide) ?_
        refine L_lv [(0, .ref b), (1, .ref (ad 0)), (2, .ref (am 0)), (3, .ref ao), (4, .int x4)] [0, 1, 2, 3, 4] rfl ?_
        exact hb23 Z11 ts6 _ hZ11 hf
      · replace hf := (if_neg c16).symm.trans hf
        refine L_iconst 0 dL_law_833 (by decide) ?_
        cases hf
  · replace hf := (if_neg c14).symm.trans hf
    refine L_iconst 0 dL_law_816 (by decide) ?_
    cases hf
def f_law_c12 (bk : S3 → Int32 → Option Unit) (xs : Nat → Int32) (L : Nat) (S : S3) (x4 : Int32) : Option Unit := bno (f_X9_anchors S.1.1) fun r1 => bno (f_X10_anchors S.2.2) fun r3 => lt (S.1, (S.2.1, r3.2)) fun Z4 => if r1 = r3.1 then (bk Z4 x4) else (none)
set_option maxHeartbeats 8000000 in
set_option maxRecDepth 100000 in
theorem v_law_c12 {l : Launch} {G : Gv} {b L : Nat} {xs : Nat → Int32} {ad am : Nat → Nat} {ao : Nat} {bk : S3 → Int32 → Option Unit} {ce sl : Nat} {S : S3} {ts : List Tb} {x4 : Int32} (hce : ce + 16 ≤ 601024) (hsl : sl + 256 ≤ 7293034) (hts : ts.map (fun q => q.2) = S.1.2.2.2) (hb23 : ∀ (S : S3) (ts : List Tb) (x4 : Int32), ts.map (fun q => q.2) = S.1.2.2.2 → bk S x4 = some () → VL l G b L xs (ce + 16) (sl + 256) (wO G ad S.1 ts ao S.2.1 ++ wM G am S.2.2) 1472 [(0, .ref b), (1, .ref (ad 0)), (2, .ref (am 0)), (3, .ref ao), (4, .int x4)] []) (hf : f_law_c12 bk xs L S x4 = some ()) : VL l G b L xs ce sl (wO G ad S.1 ts ao S.2.1 ++ wM G am S.2.2) 838 [(0, .ref b), (1, .ref (ad 0)), (2, .ref (am 0)), (3, .ref ao), (4, .int x4)] [] := by
  unfold f_law_c12 at hf
  refine L_aload_n 1 rfl dL_law_838 rfl ?_
  obtain ⟨r1, hr1, hf⟩ := bno_some hf
  refine L_ws (ws1 := wC G ad S.1.1 ++ ((wH G ad S.1.2.1 S.1.2.2.1 ts ++ [(ao, .inl (G.2.2.2, 1, .inr (.inl S.2.1)))]) ++ wM G am S.2.2)) (by unfold wO; simp only [List.append_assoc]) ?_
  refine L_cVl (As := []) (rest := []) (k_X9_anchors (d := 2) (Nat.le_refl _) hr1) LB_X9_anchors lk_L_129 (by decide) dL_law_839 rfl rfl (Nat.le_of_ble_eq_true rfl) (by omega) (by omega) 0 rfl ⟨rfl, rfl⟩ [.int r1] rfl ?_
  refine L_ws (ws1 := (wO G ad S.1 ts ao S.2.1 ++ wM G am S.2.2)) (by unfold wO; simp only [List.append_assoc]) ?_
  refine L_aload_n 2 rfl dL_law_842 rfl ?_
  obtain ⟨r3, hr3, hf⟩ := bno_some hf
  refine L_cVr (wr := wO G ad S.1 ts ao S.2.1) (As := []) (rest := [.int r1]) (k_X10_anchors (d := 5) (Nat.le_refl _) hr3) LB_X10_anchors lk_L_132 (by decide) dL_law_843 rfl rfl (Nat.le_of_ble_eq_true rfl) (by omega) (by omega) 0 rfl ⟨rfl, rfl⟩ [.int r3.1, .int r1] rfl ?_
  obtain ⟨Z4, eZ4, hf⟩ := lt_some hf
  refine L_ws (ws1 := (wO G ad Z4.1 ts ao Z4.2.1 ++ wM G am Z4.2.2)) (by rw [eZ4]) ?_
  have hZ4 : ts.map (fun q => q.2) = Z4.1.2.2.2 := by rw [eZ4]; exact hts
  refine L_icmp_eq 1472 dL_law_846 (by decide) (fun c5 => ?_) (fun c5 => ?_)
  · replace hf := (if_pos c5).symm.trans hf
    refine L_widen (ce1 := ce + 16) (sl1 := sl + 256) (by omega) (by omega) ?_
    exact hb23 Z4 ts _ hZ4 hf
  · replace hf := (if_neg c5).symm.trans hf
    refine L_iconst 0 dL_law_849 (by decide) ?_
    cases hf
def f_law_c13 (bk : S3 → Int32 → Option Unit) (xs : Nat → Int32) (L : Nat) (S : S3) (x4 : Int32) : Option Unit := ixo (x4 + (1)) L (lt (xs (Int32.toNatClampNeg (x4 + (1)))) fun a1 => ixo (x4 + (2)) L (lt (xs (Int32.toNatClampNeg (x4 + (2)))) fun a2 => bno (f_X9_isAnchor S.1.1 a1 a2) fun q3 => grc [2] q3.1 (lt ((q3.2, S.1.2), (wob q3.1 S.2.1, S.2.2)) fun Z4 => ixo (x4 + (1)) L (lt (xs (Int32.toNatClampNeg (x4 + (1)))) fun a6 => ixo (x4 + (2)) L (lt (xs (Int32.toNatClampNeg (x4 + (2)))) fun a7 => bno (f_X10_isAnchor Z4.2.2 a6 a7) fun r8 => lt (Z4.1, (Z4.2.1, r8.2)) fun Z9 => bno (f_X10_thrown Z9.2.2) fun r10 => if r10 = (wk [2] q3.1) then (if (wk [2] q3.1) = 0 then (if (b2i r8.1) = 0 then (if (lg_cmp (Z9.2.1 0) (0)) = 0 then (bk Z9 x4) else (none)) else (if (lg_cmp (Z9.2.1 0) (1)) = 0 then (bk Z9 x4) else (none))) else (bk Z9 x4)) else (none))))))
set_option maxHeartbeats 8000000 in
set_option maxRecDepth 100000 in
theorem v_law_c13 {l : Launch} {G : Gv} {b L : Nat} {xs : Nat → Int32} {ad am : Nat → Nat} {ao : Nat} {bk : S3 → Int32 → Option Unit} {ce sl : Nat} {S : S3} {ts : List Tb} {x4 : Int32} (hce : ce + 16 ≤ 601024) (hsl : sl + 256 ≤ 7293034) (hts : ts.map (fun q => q.2) = S.1.2.2.2) (hb23 : ∀ (S : S3) (ts : List Tb) (x4 : Int32), ts.map (fun q => q.2) = S.1.2.2.2 → bk S x4 = some () → VL l G b L xs (ce + 16) (sl + 256) (wO G ad S.1 ts ao S.2.1 ++ wM G am S.2.2) 1472 [(0, .ref b), (1, .ref (ad 0)), (2, .ref (am 0)), (3, .ref ao), (4, .int x4)] []) (hf : f_law_c13 bk xs L S x4 = some ()) : VL l G b L xs ce sl (wO G ad S.1 ts ao S.2.1 ++ wM G am S.2.2) 851 [(0, .ref b), (1, .ref (ad 0)), (2, .ref (am 0)), (3, .ref ao), (4, .int x4)] [] := by
  unfold f_law_c13 at hf
  refine L_aload_n 1 rfl dL_law_851 rfl ?_
  refine L_aload_n 0 rfl dL_law_852 rfl ?_
  refine L_iload 4 rfl dL_law_853 ?_
  refine L_iconst 1 dL_law_855 (by decide) ?_
  refine L_iadd dL_law_856 ?_
  obtain ⟨hi, hf⟩ := ixo_some hf
  refine L_sld hi dL_law_857 ?_
  obtain ⟨a1, ea1, hf⟩ := lt_some hf
  refine L_st (st1 := [.int a1, .ref (ad 0)]) (by rw [ea1]) ?_
  refine L_aload_n 0 rfl dL_law_858 rfl ?_
  refine L_iload 4 rfl dL_law_859 ?_
  refine L_iconst 2 dL_law_861 (by decide) ?_
  refine L_iadd dL_law_862 ?_
  obtain ⟨hi, hf⟩ := ixo_some hf
  refine L_sld hi dL_law_863 ?_
  obtain ⟨a2, ea2, hf⟩ := lt_some hf
  refine L_st (st1 := [.int a2, .int a1, .ref (ad 0)]) (by rw [ea2]) ?_
  refine L_aload_n 3 rfl dL_law_864 rfl ?_
  obtain ⟨q3, hq3, hf⟩ := bno_some hf
  obtain ⟨hcq3, hf⟩ := grc_some hf
  obtain ⟨Z4, eZ4, hf⟩ := lt_some hf
  refine L_wrap (As := [.ref (ad 0), .int a1, .int a2, .ref ao]) (rest := []) (k_L_isAnchor (d := 9) (Nat.le_refl _) hts hcq3 hq3) LBW_isAnchor lkL_133 (by decide) dL_law_865 rfl rfl (Nat.le_of_ble_eq_true rfl) ⟨by omega, by omega⟩ (fun w1 hw => ?_)
  obtain ⟨ts5, hts5, rfl⟩ := hw
  refine L_ws (ws1 := (wO G ad Z4.1 ts5 ao Z4.2.1 ++ wM G am Z4.2.2)) (by rw [eZ4]) ?_
  have hts5 : ts5.map (fun q => q.2) = Z4.1.2.2.2 := by rw [eZ4]; exact hts5
  refine L_istore [(0, .ref b), (1, .ref (ad 0)), (2, .ref (am 0)), (3, .ref ao), (4, .int x4), (5, .int (wk [2] q3.1))] [1, 2, 3, 4, 5, 0] dL_law_868 (by decide) rfl ?_
  refine L_aload_n 2 rfl dL_law_870 rfl ?_
  refine L_aload_n 0 rfl dL_law_871 rfl ?_
  refine L_iload 4 rfl dL_law_872 ?_
  refine L_iconst 1 dL_law_874 (by decide) ?_
  refine L_iadd dL_law_875 ?_
  obtain ⟨hi, hf⟩ := ixo_some hf
  refine L_sld hi dL_law_876 ?_
  obtain ⟨a6, ea6, hf⟩ := lt_some hf
  refine L_st (st1 := [.int a6, .ref (am 0)]) (by rw [ea6]) ?_
  refine L_aload_n 0 rfl dL_law_877 rfl ?_
  refine L_iload 4 rfl dL_law_878 ?_
  refine L_iconst 2 dL_law_880 (by decide) ?_
  refine L_iadd dL_law_881 ?_
  obtain ⟨hi, hf⟩ := ixo_some hf
  refine L_sld hi dL_law_882 ?_
  obtain ⟨a7, ea7, hf⟩ := lt_some hf
  refine L_st (st1 := [.int a7, .int a6, .ref (am 0)]) (by rw [ea7]) ?_
  obtain ⟨r8, hr8, hf⟩ := bno_some hf
  refine L_cVr (wr := wO G ad Z4.1 ts5 ao Z4.2.1) (As := [.int a6, .int a7]) (rest := []) (k_X10_isAnchor (d := 4) (Nat.le_refl _) hr8) LB_X10_isAnchor lk_L_135 (by decide) dL_law_883 rfl rfl (Nat.le_of_ble_eq_true rfl) (by omega) (by omega) 0 rfl ⟨rfl, rfl⟩ [.int (b2i r8.1)] rfl ?_
  obtain ⟨Z9, eZ9, hf⟩ := lt_some hf
  refine L_ws (ws1 := (wO G ad Z9.1 ts5 ao Z9.2.1 ++ wM G am Z9.2.2)) (by rw [eZ9]) ?_
  have hZ9 : ts5.map (fun q => q.2) = Z9.1.2.2.2 := by rw [eZ9]; exact hts5
  refine L_istore [(0, .ref b), (1, .ref (ad 0)), (2, .ref (am 0)), (3, .ref ao), (4, .int x4), (5, .int (wk [2] q3.1)), (6, .int (b2i r8.1))] [1, 2, 3, 4, 5, 6, 0] dL_law_886 (by decide) rfl ?_
  refine L_aload_n 2 rfl dL_law_888 rfl ?_
  obtain ⟨r10, hr10, hf⟩ := bno_some hf
  refine L_cVr (wr := wO G ad Z9.1 ts5 ao Z9.2.1) (As := []) (rest := []) (k_X10_thrown (d := 0) (Nat.le_refl _) hr10) LB_X10_thrown lk_L_88 (by decide) dL_law_889 rfl rfl (Nat.le_of_ble_eq_true rfl) (by omega) (by omega) 0 rfl ⟨rfl, rfl⟩ [.int r10] rfl ?_
  refine L_iload 5 rfl dL_law_892 ?_
  refine L_icmp_eq 899 dL_law_894 (by decide) (fun c12 => ?_) (fun c12 => ?_)
  · replace hf := (if_pos c12).symm.trans hf
    refine L_iload 5 rfl dL_law_899 ?_
    refine L_if_ne 923 dL_law_901 (by decide) (fun c13 => ?_) (fun c13 => ?_)
    · replace hf := (if_neg c13).symm.trans hf
      refine L_goto 1472 dL_law_923 (by decide) ?_
      refine L_lv [(0, .ref b), (1, .ref (ad 0)), (2, .ref (am 0)), (3, .ref ao), (4, .int x4)] [0, 1, 2, 3, 4] rfl ?_
      exact hb23 Z9 ts5 _ hZ9 hf
    · replace hf := (if_pos c13).symm.trans hf
      refine L_aload_n 3 rfl dL_law_904 rfl ?_
      refine L_iconst 0 dL_law_905 (by decide) ?_
      refine L_laload dL_law_906 (15 + (wTs G ts5).length) (wL_out G ad am ao Z9 ts5) vp01 ?_
      refine L_st (st1 := [.long (Z9.2.1 0)]) rfl ?_
      refine L_iload 6 rfl dL_law_907 ?_
      refine L_if_eq 916 dL_law_909 (by decide) (fun c14 => ?_) (fun c14 => ?_)
      · replace hf := (if_pos c14).symm.trans hf
        refine L_lconst 0 dL_law_916 (by decide) ?_
        refine L_lcmp dL_law_917 ?_
        refine L_if_eq 923 dL_law_918 (by decide) (fun c15 => ?_) (fun c15 => ?_)
        · replace hf := (if_pos c15).symm.trans hf
          refine L_goto 1472 dL_law_923 (by decide) ?_
          refine L_lv [(0, .ref b), (1, .ref (ad 0)), (2, .ref (am 0)), (3, .ref ao), (4, .int x4)] [0, 1, 2, 3, 4] rfl ?_
          exact hb23 Z9 ts5 _ hZ9 hf
        · replace hf := (if_neg c15).symm.trans hf
          refine L_iconst 0 dL_law_921 (by decide) ?_
          cases hf
      · replace hf := (if_neg c14).symm.trans hf
        refine L_lconst 1 dL_law_912 (by decide) ?_
        refine L_goto 917 dL_law_913 (by decide) ?_
        refine L_lcmp dL_law_917 ?_
        refine L_if_eq 923 dL_law_918 (by decide) (fun c16 => ?_) (fun c16 => ?_)
        · replace hf := (if_pos c16).symm.trans hf
          refine L_goto 1472 dL_law_923 (by decide) ?_
          refine L_lv [(0, .ref b), (1, .ref (ad 0)), (2, .ref (am 0)), (3, .ref ao), (4, .int x4)] [0, 1, 2, 3, 4] rfl ?_
          exact hb23 Z9 ts5 _ hZ9 hf
        · replace hf := (if_neg c16).symm.trans hf
          refine L_iconst 0 dL_law_921 (by decide) ?_
          cases hf
  · replace hf := (if_neg c12).symm.trans hf
    refine L_iconst 0 dL_law_897 (by decide) ?_
    cases hf
def f_law_c14 (bk : S3 → Int32 → Option Unit) (xs : Nat → Int32) (L : Nat) (S : S3) (x4 : Int32) : Option Unit := ixo (x4 + (1)) L (lt (xs (Int32.toNatClampNeg (x4 + (1)))) fun a1 => ixo (x4 + (2)) L (lt (xs (Int32.toNatClampNeg (x4 + (2)))) fun a2 => ixo (x4 + (3)) L (lt (xs (Int32.toNatClampNeg (x4 + (3)))) fun a3 => ixo (x4 + (4)) L (lt (xs (Int32.toNatClampNeg (x4 + (4)))) fun a4 => bno (f_X9_check S.1.1 a1 a2 a3 a4) fun q5 => grc [2, 0] q5.1 (lt ((q5.2, S.1.2), (wo q5.1 S.2.1, S.2.2)) fun Z6 => ixo (x4 + (1)) L (lt (xs (Int32.toNatClampNeg (x4 + (1)))) fun a8 => ixo (x4 + (2)) L (lt (xs (Int32.toNatClampNeg (x4 + (2)))) fun a9 => ixo (x4 + (3)) L (lt (xs (Int32.toNatClampNeg (x4 + (3)))) fun a10 => ixo (x4 + (4)) L (lt (xs (Int32.toNatClampNeg (x4 + (4)))) fun a11 => bno (f_X10_check Z6.2.2 a8 a9 a10 a11) fun r12 => lt (Z6.1, (Z6.2.1, r12.2)) fun Z13 => bno (f_X10_thrown Z13.2.2) fun r14 => if r14 = (wk [2, 0] q5.1) then (if (wk [2, 0] q5.1) = 0 then (if (lg_cmp (Z13.2.1 0) (Int32.toInt64 r12.1)) = 0 then (bk Z13 x4) else (none)) else (bk Z13 x4)) else (none))))))))))
set_option maxHeartbeats 8000000 in
set_option maxRecDepth 100000 in
theorem v_law_c14 {l : Launch} {G : Gv} {b L : Nat} {xs : Nat → Int32} {ad am : Nat → Nat} {ao : Nat} {bk : S3 → Int32 → Option Unit} {ce sl : Nat} {S : S3} {ts : List Tb} {x4 : Int32} (hce : ce + 16 ≤ 601024) (hsl : sl + 256 ≤ 7293034) (hts : ts.map (fun q => q.2) = S.1.2.2.2) (hb23 : ∀ (S : S3) (ts : List Tb) (x4 : Int32), ts.map (fun q => q.2) = S.1.2.2.2 → bk S x4 = some () → VL l G b L xs (ce + 16) (sl + 256) (wO G ad S.1 ts ao S.2.1 ++ wM G am S.2.2) 1472 [(0, .ref b), (1, .ref (ad 0)), (2, .ref (am 0)), (3, .ref ao), (4, .int x4)] []) (hf : f_law_c14 bk xs L S x4 = some ()) : VL l G b L xs ce sl (wO G ad S.1 ts ao S.2.1 ++ wM G am S.2.2) 926 [(0, .ref b), (1, .ref (ad 0)), (2, .ref (am 0)), (3, .ref ao), (4, .int x4)] [] := by
  unfold f_law_c14 at hf
  refine L_aload_n 1 rfl dL_law_926 rfl ?_
  refine L_aload_n 0 rfl dL_law_927 rfl ?_
  refine L_iload 4 rfl dL_law_928 ?_
  refine L_iconst 1 dL_law_930 (by decide) ?_
  refine L_iadd dL_law_931 ?_
  obtain ⟨hi, hf⟩ := ixo_some hf
  refine L_sld hi dL_law_932 ?_
  obtain ⟨a1, ea1, hf⟩ := lt_some hf
  refine L_st (st1 := [.int a1, .ref (ad 0)]) (by rw [ea1]) ?_
  refine L_aload_n 0 rfl dL_law_933 rfl ?_
  refine L_iload 4 rfl dL_law_934 ?_
  refine L_iconst 2 dL_law_936 (by decide) ?_
  refine L_iadd dL_law_937 ?_
  obtain ⟨hi, hf⟩ := ixo_some hf
  refine L_sld hi dL_law_938 ?_
  obtain ⟨a2, ea2, hf⟩ := lt_some hf
  refine L_st (st1 := [.int a2, .int a1, .ref (ad 0)]) (by rw [ea2]) ?_
  refine L_aload_n 0 rfl dL_law_939 rfl ?_
  refine L_iload 4 rfl dL_law_940 ?_
  refine L_iconst 3 dL_law_942 (by decide) ?_
  refine L_iadd dL_law_943 ?_
  obtain ⟨hi, hf⟩ := ixo_some hf
  refine L_sld hi dL_law_944 ?_
  obtain ⟨a3, ea3, hf⟩ := lt_some hf
  refine L_st (st1 := [.int a3, .int a2, .int a1, .ref (ad 0)]) (by rw [ea3]) ?_
  refine L_aload_n 0 rfl dL_law_945 rfl ?_
  refine L_iload 4 rfl dL_law_946 ?_
  refine L_iconst 4 dL_law_948 (by decide) ?_
  refine L_iadd dL_law_949 ?_
  obtain ⟨hi, hf⟩ := ixo_some hf
  refine L_sld hi dL_law_950 ?_
  obtain ⟨a4, ea4, hf⟩ := lt_some hf
  refine L_st (st1 := [.int a4, .int a3, .int a2, .int a1, .ref (ad 0)]) (by rw [ea4]) ?_
  refine L_aload_n 3 rfl dL_law_951 rfl ?_
  obtain ⟨q5, hq5, hf⟩ := bno_some hf
  obtain ⟨hcq5, hf⟩ := grc_some hf
  obtain ⟨Z6, eZ6, hf⟩ := lt_some hf
  refine L_wrap (As := [.ref (ad 0), .int a1, .int a2, .int a3, .int a4, .ref ao]) (rest := []) (k_L_check (d := 9) (Nat.le_refl _) hts hcq5 hq5) LBW_check lkL_136 (by decide) dL_law_952 rfl rfl (Nat.le_of_ble_eq_true rfl) ⟨by omega, by omega⟩ (fun w1 hw => ?_)
  obtain ⟨ts7, hts7, rfl⟩ := hw
  refine L_ws (ws1 := (wO G ad Z6.1 ts7 ao Z6.2.1 ++ wM G am Z6.2.2)) (by rw [eZ6]) ?_
  have hts7 : ts7.map (fun q => q.2) = Z6.1.2.2.2 := by rw [eZ6]; exact hts7
  refine L_istore [(0, .ref b), (1, .ref (ad 0)), (2, .ref (am 0)), (3, .ref ao), (4, .int x4), (5, .int (wk [2, 0] q5.1))] [1, 2, 3, 4, 5, 0] dL_law_955 (by decide) rfl ?_
  refine L_aload_n 2 rfl dL_law_957 rfl ?_
  refine L_aload_n 0 rfl dL_law_958 rfl ?_
  refine L_iload 4 rfl dL_law_959 ?_
  refine L_iconst 1 dL_law_961 (by decide) ?_
  refine L_iadd dL_law_962 ?_
  obtain ⟨hi, hf⟩ := ixo_some hf
  refine L_sld hi dL_law_963 ?_
  obtain ⟨a8, ea8, hf⟩ := lt_some hf
  refine L_st (st1 := [.int a8, .ref (am 0)]) (by rw [ea8]) ?_
  refine L_aload_n 0 rfl dL_law_964 rfl ?_
  refine L_iload 4 rfl dL_law_965 ?_
  refine L_iconst 2 dL_law_967 (by decide) ?_
  refine L_iadd dL_law_968 ?_
  obtain ⟨hi, hf⟩ := ixo_some hf
  refine L_sld hi dL_law_969 ?_
  obtain ⟨a9, ea9, hf⟩ := lt_some hf
  refine L_st (st1 := [.int a9, .int a8, .ref (am 0)]) (by rw [ea9]) ?_
  refine L_aload_n 0 rfl dL_law_970 rfl ?_
  refine L_iload 4 rfl dL_law_971 ?_
  refine L_iconst 3 dL_law_973 (by decide) ?_
  refine L_iadd dL_law_974 ?_
  obtain ⟨hi, hf⟩ := ixo_some hf
  refine L_sld hi dL_law_975 ?_
  obtain ⟨a10, ea10, hf⟩ := lt_some hf
  refine L_st (st1 := [.int a10, .int a9, .int a8, .ref (am 0)]) (by rw [ea10]) ?_
  refine L_aload_n 0 rfl dL_law_976 rfl ?_
  refine L_iload 4 rfl dL_law_977 ?_
  refine L_iconst 4 dL_law_979 (by decide) ?_
  refine L_iadd dL_law_980 ?_
  obtain ⟨hi, hf⟩ := ixo_some hf
  refine L_sld hi dL_law_981 ?_
  obtain ⟨a11, ea11, hf⟩ := lt_some hf
  refine L_st (st1 := [.int a11, .int a10, .int a9, .int a8, .ref (am 0)]) (by rw [ea11]) ?_
  obtain ⟨r12, hr12, hf⟩ := bno_some hf
  refine L_cVr (wr := wO G ad Z6.1 ts7 ao Z6.2.1) (As := [.int a8, .int a9, .int a10, .int a11]) (rest := []) (k_X10_check (d := 5) (Nat.le_refl _) hr12) LB_X10_check lk_L_139 (by decide) dL_law_982 rfl rfl (Nat.le_of_ble_eq_true rfl) (by omega) (by omega) 0 rfl ⟨rfl, rfl⟩ [.int r12.1] rfl ?_
  obtain ⟨Z13, eZ13, hf⟩ := lt_some hf
  refine L_ws (ws1 := (wO G ad Z13.1 ts7 ao Z13.2.1 ++ wM G am Z13.2.2)) (by rw [eZ13]) ?_
  have hZ13 : ts7.map (fun q => q.2) = Z13.1.2.2.2 := by rw [eZ13]; exact hts7
  refine L_istore [(0, .ref b), (1, .ref (ad 0)), (2, .ref (am 0)), (3, .ref ao), (4, .int x4), (5, .int (wk [2, 0] q5.1)), (6, .int r12.1)] [1, 2, 3, 4, 5, 6, 0] dL_law_985 (by decide) rfl ?_
  refine L_aload_n 2 rfl dL_law_987 rfl ?_
  obtain ⟨r14, hr14, hf⟩ := bno_some hf
  refine L_cVr (wr := wO G ad Z13.1 ts7 ao Z13.2.1) (As := []) (rest := []) (k_X10_thrown (d := 0) (Nat.le_refl _) hr14) LB_X10_thrown lk_L_88 (by decide) dL_law_988 rfl rfl (Nat.le_of_ble_eq_true rfl) (by omega) (by omega) 0 rfl ⟨rfl, rfl⟩ [.int r14] rfl ?_
  refine L_iload 5 rfl dL_law_991 ?_
  refine L_icmp_eq 998 dL_law_993 (by decide) (fun c16 => ?_) (fun c16 => ?_)
  · replace hf := (if_pos c16).symm.trans hf
    refine L_iload 5 rfl dL_law_998 ?_
    refine L_if_ne 1015 dL_law_1000 (by decide) (fun c17 => ?_) (fun c17 => ?_)
    · replace hf := (if_neg c17).symm.trans hf
      refine L_goto 1472 dL_law_1015 (by decide) ?_
      refine L_lv [(0, .ref b), (1, .ref (ad 0)), (2, .ref (am 0)), (3, .ref ao), (4, .int x4)] [0, 1, 2, 3, 4] rfl ?_
      exact hb23 Z13 ts7 _ hZ13 hf
    · replace hf := (if_pos c17).symm.trans hf
      refine L_aload_n 3 rfl dL_law_1003 rfl ?_
      refine L_iconst 0 dL_law_1004 (by decide) ?_
      refine L_laload dL_law_1005 (15 + (wTs G ts7).length) (wL_out G ad am ao Z13 ts7) vp01 ?_
      refine L_st (st1 := [.long (Z13.2.1 0)]) rfl ?_
      refine L_iload 6 rfl dL_law_1006 ?_
      refine L_i2l dL_law_1008 ?_
      refine L_lcmp dL_law_1009 ?_
      refine L_if_eq 1015 dL_law_1010 (by decide) (fun c18 => ?_) (fun c18 => ?_)
      · replace hf := (if_pos c18).symm.trans hf
        refine L_goto 1472 dL_law_1015 (by decide) ?_
        refine L_lv [(0, .ref b), (1, .ref (ad 0)), (2, .ref (am 0)), (3, .ref ao), (4, .int x4)] [0, 1, 2, 3, 4] rfl ?_
        exact hb23 Z13 ts7 _ hZ13 hf
      · replace hf := (if_neg c18).symm.trans hf
        refine L_iconst 0 dL_law_1013 (by decide) ?_
        cases hf
  · replace hf := (if_neg c16).symm.trans hf
    refine L_iconst 0 dL_law_996 (by decide) ?_
    cases hf
def f_law_c15 (bk : S3 → Int32 → Option Unit) (xs : Nat → Int32) (L : Nat) (S : S3) (x4 : Int32) : Option Unit := ixo (x4 + (1)) L (lt (xs (Int32.toNatClampNeg (x4 + (1)))) fun a1 => ixo (x4 + (2)) L (lt (xs (Int32.toNatClampNeg (x4 + (2)))) fun a2 => ixo (x4 + (3)) L (lt (xs (Int32.toNatClampNeg (x4 + (3)))) fun a3 => ixo (x4 + (4)) L (lt (xs (Int32.toNatClampNeg (x4 + (4)))) fun a4 => bno (f_X9_play S.1 a1 a2 a3 a4) fun q5 => grc [2, 0, 1] q5.1 (lt (q5.2, (wo q5.1 S.2.1, S.2.2)) fun Z6 => ixo (x4 + (1)) L (lt (xs (Int32.toNatClampNeg (x4 + (1)))) fun a8 => ixo (x4 + (2)) L (lt (xs (Int32.toNatClampNeg (x4 + (2)))) fun a9 => ixo (x4 + (3)) L (lt (xs (Int32.toNatClampNeg (x4 + (3)))) fun a10 => ixo (x4 + (4)) L (lt (xs (Int32.toNatClampNeg (x4 + (4)))) fun a11 => bno (f_X10_play Z6.2.2 a8 a9 a10 a11) fun r12 => lt (Z6.1, (Z6.2.1, r12.2)) fun Z13 => bno (f_X10_thrown Z13.2.2) fun r14 => if r14 = (wk [2, 0, 1] q5.1) then (if (wk [2, 0, 1] q5.1) = 0 then (if (lg_cmp (Z13.2.1 0) (Int32.toInt64 r12.1)) = 0 then (bk Z13 x4) else (none)) else (bk Z13 x4)) else (none))))))))))
set_option maxHeartbeats 8000000 in
set_option maxRecDepth 100000 in
theorem v_law_c15 {l : Launch} {G : Gv} {b L : Nat} {xs : Nat → Int32} {ad am : Nat → Nat} {ao : Nat} {bk : S3 → Int32 → Option Unit} {ce sl : Nat} {S : S3} {ts : List Tb} {x4 : Int32} (hce : ce + 16 ≤ 601024) (hsl : sl + 256 ≤ 7293034) (hts : ts.map (fun q => q.2) = S.1.2.2.2) (hb23 : ∀ (S : S3) (ts : List Tb) (x4 : Int32), ts.map (fun q => q.2) = S.1.2.2.2 → bk S x4 = some () → VL l G b L xs (ce + 16) (sl + 256) (wO G ad S.1 ts ao S.2.1 ++ wM G am S.2.2) 1472 [(0, .ref b), (1, .ref (ad 0)), (2, .ref (am 0)), (3, .ref ao), (4, .int x4)] []) (hf : f_law_c15 bk xs L S x4 = some ()) : VL l G b L xs ce sl (wO G ad S.1 ts ao S.2.1 ++ wM G am S.2.2) 1018 [(0, .ref b), (1, .ref (ad 0)), (2, .ref (am 0)), (3, .ref ao), (4, .int x4)] [] := by
  unfold f_law_c15 at hf
  refine L_aload_n 1 rfl dL_law_1018 rfl ?_
  refine L_aload_n 0 rfl dL_law_1019 rfl ?_
  refine L_iload 4 rfl dL_law_1020 ?_
  refine L_iconst 1 dL_law_1022 (by decide) ?_
  refine L_iadd dL_law_1023 ?_
  obtain ⟨hi, hf⟩ := ixo_some hf
  refine L_sld hi dL_law_1024 ?_
  obtain ⟨a1, ea1, hf⟩ := lt_some hf
  refine L_st (st1 := [.int a1, .ref (ad 0)]) (by rw [ea1]) ?_
  refine L_aload_n 0 rfl dL_law_1025 rfl ?_
  refine L_iload 4 rfl dL_law_1026 ?_
  refine L_iconst 2 dL_law_1028 (by decide) ?_
  refine L_iadd dL_law_1029 ?_
  obtain ⟨hi, hf⟩ := ixo_some hf
  refine L_sld hi dL_law_1030 ?_
  obtain ⟨a2, ea2, hf⟩ := lt_some hf
  refine L_st (st1 := [.int a2, .int a1, .ref (ad 0)]) (by rw [ea2]) ?_
  refine L_aload_n 0 rfl dL_law_1031 rfl ?_
  refine L_iload 4 rfl dL_law_1032 ?_
  refine L_iconst 3 dL_law_1034 (by decide) ?_
  refine L_iadd dL_law_1035 ?_
  obtain ⟨hi, hf⟩ := ixo_some hf
  refine L_sld hi dL_law_1036 ?_
  obtain ⟨a3, ea3, hf⟩ := lt_some hf
  refine L_st (st1 := [.int a3, .int a2, .int a1, .ref (ad 0)]) (by rw [ea3]) ?_
  refine L_aload_n 0 rfl dL_law_1037 rfl ?_
  refine L_iload 4 rfl dL_law_1038 ?_
  refine L_iconst 4 dL_law_1040 (by decide) ?_
  refine L_iadd dL_law_1041 ?_
  obtain ⟨hi, hf⟩ := ixo_some hf
  refine L_sld hi dL_law_1042 ?_
  obtain ⟨a4, ea4, hf⟩ := lt_some hf
  refine L_st (st1 := [.int a4, .int a3, .int a2, .int a1, .ref (ad 0)]) (by rw [ea4]) ?_
  refine L_aload_n 3 rfl dL_law_1043 rfl ?_
  obtain ⟨q5, hq5, hf⟩ := bno_some hf
  obtain ⟨hcq5, hf⟩ := grc_some hf
  obtain ⟨Z6, eZ6, hf⟩ := lt_some hf
  refine L_wrap (As := [.ref (ad 0), .int a1, .int a2, .int a3, .int a4, .ref ao]) (rest := []) (k_L_play (d := 11) (Nat.le_refl _) hts hcq5 hq5) LBW_play lkL_140 (by decide) dL_law_1044 rfl rfl (Nat.le_of_ble_eq_true rfl) ⟨by omega, by omega⟩ (fun w1 hw => ?_)
  obtain ⟨ts7, hts7, rfl⟩ := hw
  refine L_ws (ws1 := (wO G ad Z6.1 ts7 ao Z6.2.1 ++ wM G am Z6.2.2)) (by rw [eZ6]) ?_
  have hts7 : ts7.map (fun q => q.2) = Z6.1.2.2.2 := by rw [eZ6]; exact hts7
  refine L_istore [(0, .ref b), (1, .ref (ad 0)), (2, .ref (am 0)), (3, .ref ao), (4, .int x4), (5, .int (wk [2, 0, 1] q5.1))] [1, 2, 3, 4, 5, 0] dL_law_1047 (by decide) rfl ?_
  refine L_aload_n 2 rfl dL_law_1049 rfl ?_
  refine L_aload_n 0 rfl dL_law_1050 rfl ?_
  refine L_iload 4 rfl dL_law_1051 ?_
  refine L_iconst 1 dL_law_1053 (by decide) ?_
  refine L_iadd dL_law_1054 ?_
  obtain ⟨hi, hf⟩ := ixo_some hf
  refine L_sld hi dL_law_1055 ?_
  obtain ⟨a8, ea8, hf⟩ := lt_some hf
  refine L_st (st1 := [.int a8, .ref (am 0)]) (by rw [ea8]) ?_
  refine L_aload_n 0 rfl dL_law_1056 rfl ?_
  refine L_iload 4 rfl dL_law_1057 ?_
  refine L_iconst 2 dL_law_1059 (by decide) ?_
  refine L_iadd dL_law_1060 ?_
  obtain ⟨hi, hf⟩ := ixo_some hf
  refine L_sld hi dL_law_1061 ?_
  obtain ⟨a9, ea9, hf⟩ := lt_some hf
  refine L_st (st1 := [.int a9, .int a8, .ref (am 0)]) (by rw [ea9]) ?_
  refine L_aload_n 0 rfl dL_law_1062 rfl ?_
  refine L_iload 4 rfl dL_law_1063 ?_
  refine L_iconst 3 dL_law_1065 (by decide) ?_
  refine L_iadd dL_law_1066 ?_
  obtain ⟨hi, hf⟩ := ixo_some hf
  refine L_sld hi dL_law_1067 ?_
  obtain ⟨a10, ea10, hf⟩ := lt_some hf
  refine L_st (st1 := [.int a10, .int a9, .int a8, .ref (am 0)]) (by rw [ea10]) ?_
  refine L_aload_n 0 rfl dL_law_1068 rfl ?_
  refine L_iload 4 rfl dL_law_1069 ?_
  refine L_iconst 4 dL_law_1071 (by decide) ?_
  refine L_iadd dL_law_1072 ?_
  obtain ⟨hi, hf⟩ := ixo_some hf
  refine L_sld hi dL_law_1073 ?_
  obtain ⟨a11, ea11, hf⟩ := lt_some hf
  refine L_st (st1 := [.int a11, .int a10, .int a9, .int a8, .ref (am 0)]) (by rw [ea11]) ?_
  obtain ⟨r12, hr12, hf⟩ := bno_some hf
  refine L_cVr (wr := wO G ad Z6.1 ts7 ao Z6.2.1) (As := [.int a8, .int a9, .int a10, .int a11]) (rest := []) (k_X10_play (d := 6) (Nat.le_refl _) hr12) LB_X10_play lk_L_142 (by decide) dL_law_1074 rfl rfl (Nat.le_of_ble_eq_true rfl) (by omega) (by omega) 0 rfl ⟨rfl, rfl⟩ [.int r12.1] rfl ?_
  obtain ⟨Z13, eZ13, hf⟩ := lt_some hf
  refine L_ws (ws1 := (wO G ad Z13.1 ts7 ao Z13.2.1 ++ wM G am Z13.2.2)) (by rw [eZ13]) ?_
  have hZ13 : ts7.map (fun q => q.2) = Z13.1.2.2.2 := by rw [eZ13]; exact hts7
  refine L_istore [(0, .ref b), (1, .ref (ad 0)), (2, .ref (am 0)), (3, .ref ao), (4, .int x4), (5, .int (wk [2, 0, 1] q5.1)), (6, .int r12.1)] [1, 2, 3, 4, 5, 6, 0] dL_law_1077 (by decide) rfl ?_
  refine L_aload_n 2 rfl dL_law_1079 rfl ?_
  obtain ⟨r14, hr14, hf⟩ := bno_some hf
  refine L_cVr (wr := wO G ad Z13.1 ts7 ao Z13.2.1) (As := []) (rest := []) (k_X10_thrown (d := 0) (Nat.le_refl _) hr14) LB_X10_thrown lk_L_88 (by decide) dL_law_1080 rfl rfl (Nat.le_of_ble_eq_true rfl) (by omega) (by omega) 0 rfl ⟨rfl, rfl⟩ [.int r14] rfl ?_
  refine L_iload 5 rfl dL_law_1083 ?_
  refine L_icmp_eq 1090 dL_law_1085 (by decide) (fun c16 => ?_) (fun c16 => ?_)
  · replace hf := (if_pos c16).symm.trans hf
    refine L_iload 5 rfl dL_law_1090 ?_
    refine L_if_ne 1107 dL_law_1092 (by decide) (fun c17 => ?_) (fun c17 => ?_)
    · replace hf := (if_neg c17).symm.trans hf
      refine L_goto 1472 dL_law_1107 (by decide) ?_
      refine L_lv [(0, .ref b), (1, .ref (ad 0)), (2, .ref (am 0)), (3, .ref ao), (4, .int x4)] [0, 1, 2, 3, 4] rfl ?_
      exact hb23 Z13 ts7 _ hZ13 hf
    · replace hf := (if_pos c17).symm.trans hf
      refine L_aload_n 3 rfl dL_law_1095 rfl ?_
      refine L_iconst 0 dL_law_1096 (by decide) ?_
      refine L_laload dL_law_1097 (15 + (wTs G ts7).length) (wL_out G ad am ao Z13 ts7) vp01 ?_
      refine L_st (st1 := [.long (Z13.2.1 0)]) rfl ?_
      refine L_iload 6 rfl dL_law_1098 ?_
      refine L_i2l dL_law_1100 ?_
      refine L_lcmp dL_law_1101 ?_
      refine L_if_eq 1107 dL_law_1102 (by decide) (fun c18 => ?_) (fun c18 => ?_)
      · replace hf := (if_pos c18).symm.trans hf
        refine L_goto 1472 dL_law_1107 (by decide) ?_
        refine L_lv [(0, .ref b), (1, .ref (ad 0)), (2, .ref (am 0)), (3, .ref ao), (4, .int x4)] [0, 1, 2, 3, 4] rfl ?_
        exact hb23 Z13 ts7 _ hZ13 hf
      · replace hf := (if_neg c18).symm.trans hf
        refine L_iconst 0 dL_law_1105 (by decide) ?_
        cases hf
  · replace hf := (if_neg c16).symm.trans hf
    refine L_iconst 0 dL_law_1088 (by decide) ?_
    cases hf
def f_law_c16 (bk : S3 → Int32 → Option Unit) (xs : Nat → Int32) (L : Nat) (S : S3) (x4 : Int32) : Option Unit := ixo (x4 + (1)) L (lt (xs (Int32.toNatClampNeg (x4 + (1)))) fun a1 => bno (f_X9_plays S.1.1 a1) fun q2 => grc [2] q2.1 (lt ((q2.2, S.1.2), (wo q2.1 S.2.1, S.2.2)) fun Z3 => ixo (x4 + (1)) L (lt (xs (Int32.toNatClampNeg (x4 + (1)))) fun a5 => bno (f_X10_plays Z3.2.2 a5) fun r6 => lt (Z3.1, (Z3.2.1, r6.2)) fun Z7 => bno (f_X10_thrown Z7.2.2) fun r8 => if r8 = (wk [2] q2.1) then (if (wk [2] q2.1) = 0 then (if (lg_cmp (Z7.2.1 0) (Int32.toInt64 r6.1)) = 0 then (bk Z7 x4) else (none)) else (bk Z7 x4)) else (none))))
set_option maxHeartbeats 8000000 in
set_option maxRecDepth 100000 in
theorem v_law_c16 {l : Launch} {G : Gv} {b L : Nat} {xs : Nat → Int32} {ad am : Nat → Nat} {ao : Nat} {bk : S3 → Int32 → Option Unit} {ce sl : Nat} {S : S3} {ts : List Tb} {x4 : Int32} (hce : ce + 16 ≤ 601024) (hsl : sl + 256 ≤ 7293034) (hts : ts.map (fun q => q.2) = S.1.2.2.2) (hb23 : ∀ (S : S3) (ts : List Tb) (x4 : Int32), ts.map (fun q => q.2) = S.1.2.2.2 → bk S x4 = some () → VL l G b L xs (ce + 16) (sl + 256) (wO G ad S.1 ts ao S.2.1 ++ wM G am S.2.2) 1472 [(0, .ref b), (1, .ref (ad 0)), (2, .ref (am 0)), (3, .ref ao), (4, .int x4)] []) (hf : f_law_c16 bk xs L S x4 = some ()) : VL l G b L xs ce sl (wO G ad S.1 ts ao S.2.1 ++ wM G am S.2.2) 1110 [(0, .ref b), (1, .ref (ad 0)), (2, .ref (am 0)), (3, .ref ao), (4, .int x4)] [] := by
  unfold f_law_c16 at hf
  refine L_aload_n 1 rfl dL_law_1110 rfl ?_
  refine L_aload_n 0 rfl dL_law_1111 rfl ?_
  refine L_iload 4 rfl dL_law_1112 ?_
  refine L_iconst 1 dL_law_1114 (by decide) ?_
  refine L_iadd dL_law_1115 ?_
  obtain ⟨hi, hf⟩ := ixo_some hf
  refine L_sld hi dL_law_1116 ?_
  obtain ⟨a1, ea1, hf⟩ := lt_some hf
  refine L_st (st1 := [.int a1, .ref (ad 0)]) (by rw [ea1]) ?_
  refine L_aload_n 3 rfl dL_law_1117 rfl ?_
  obtain ⟨q2, hq2, hf⟩ := bno_some hf
  obtain ⟨hcq2, hf⟩ := grc_some hf
  obtain ⟨Z3, eZ3, hf⟩ := lt_some hf
  refine L_wrap (As := [.ref (ad 0), .int a1, .ref ao]) (rest := []) (k_L_plays (d := 10) (Nat.le_refl _) hts hcq2 hq2) LBW_plays lkL_143 (by decide) dL_law_1118 rfl rfl (Nat.le_of_ble_eq_true rfl) ⟨by omega, by omega⟩ (fun w1 hw => ?_)
  obtain ⟨ts4, hts4, rfl⟩ := hw
  refine L_ws (ws1 := (wO G ad Z3.1 ts4 ao Z3.2.1 ++ wM G am Z3.2.2)) (by rw [eZ3]) ?_
  have hts4 : ts4.map (fun q => q.2) = Z3.1.2.2.2 := by rw [eZ3]; exact hts4
  refine L_istore [(0, .ref b), (1, .ref (ad 0)), (2, .ref (am 0)), (3, .ref ao), (4, .int x4), (5, .int (wk [2] q2.1))] [1, 2, 3, 4, 5, 0] dL_law_1121 (by decide) rfl ?_
  refine L_aload_n 2 rfl dL_law_1123 rfl ?_
  refine L_aload_n 0 rfl dL_law_1124 rfl ?_
  refine L_iload 4 rfl dL_law_1125 ?_
  refine L_iconst 1 dL_law_1127 (by decide) ?_
  refine L_iadd dL_law_1128 ?_
  obtain ⟨hi, hf⟩ := ixo_some hf
  refine L_sld hi dL_law_1129 ?_
  obtain ⟨a5, ea5, hf⟩ := lt_some hf
  refine L_st (st1 := [.int a5, .ref (am 0)]) (by rw [ea5]) ?_
  obtain ⟨r6, hr6, hf⟩ := bno_some hf
  refine L_cVr (wr := wO G ad Z3.1 ts4 ao Z3.2.1) (As := [.int a5]) (rest := []) (k_X10_plays (d := 7) (Nat.le_refl _) hr6) LB_X10_plays lk_L_145 (by decide) dL_law_1130 rfl rfl (Nat.le_of_ble_eq_true rfl) (by omega) (by omega) 0 rfl ⟨rfl, rfl⟩ [.int r6.1] rfl ?_
  obtain ⟨Z7, eZ7, hf⟩ := lt_some hf
  refine L_ws (ws1 := (wO G ad Z7.1 ts4 ao Z7.2.1 ++ wM G am Z7.2.2)) (by rw [eZ7]) ?_
  have hZ7 : ts4.map (fun q => q.2) = Z7.1.2.2.2 := by rw [eZ7]; exact hts4
  refine L_istore [(0, .ref b), (1, .ref (ad 0)), (2, .ref (am 0)), (3, .ref ao), (4, .int x4), (5, .int (wk [2] q2.1)), (6, .int r6.1)] [1, 2, 3, 4, 5, 6, 0] dL_law_1133 (by decide) rfl ?_
  refine L_aload_n 2 rfl dL_law_1135 rfl ?_
  obtain ⟨r8, hr8, hf⟩ := bno_some hf
  refine L_cVr (wr := wO G ad Z7.1 ts4 ao Z7.2.1) (As := []) (rest := []) (k_X10_thrown (d := 0) (Nat.le_refl _) hr8) LB_X10_thrown lk_L_88 (by decide) dL_law_1136 rfl rfl (Nat.le_of_ble_eq_true rfl) (by omega) (by omega) 0 rfl ⟨rfl, rfl⟩ [.int r8] rfl ?_
  refine L_iload 5 rfl dL_law_1139 ?_
  refine L_icmp_eq 1146 dL_law_1141 (by decide) (fun c10 => ?_) (fun c10 => ?_)
  · replace hf := (if_pos c10).symm.trans hf
    refine L_iload 5 rfl dL_law_1146 ?_
    refine L_if_ne 1163 dL_law_1148 (by decide) (fun c11 => ?_) (fun c11 => ?_)
    · replace hf := (if_neg c11).symm.trans hf
      refine L_goto 1472 dL_law_1163 (by decide) ?_
      refine L_lv [(0, .ref b), (1, .ref (ad 0)), (2, .ref (am 0)), (3, .ref ao), (4, .int x4)] [0, 1, 2, 3, 4] rfl ?_
      exact hb23 Z7 ts4 _ hZ7 hf
    · replace hf := (if_pos c11).symm.trans hf
      refine L_aload_n 3 rfl dL_law_1151 rfl ?_
      refine L_iconst 0 dL_law_1152 (by decide) ?_
      refine L_laload dL_law_1153 (15 + (wTs G ts4).length) (wL_out G ad am ao Z7 ts4) vp01 ?_
      refine L_st (st1 := [.long (Z7.2.1 0)]) rfl ?_
      refine L_iload 6 rfl dL_law_1154 ?_
      refine L_i2l dL_law_1156 ?_
      refine L_lcmp dL_law_1157 ?_
      refine L_if_eq 1163 dL_law_1158 (by decide) (fun c12 => ?_) (fun c12 => ?_)
      · replace hf := (if_pos c12).symm.trans hf
        refine L_goto 1472 dL_law_1163 (by decide) ?_
        refine L_lv [(0, .ref b), (1, .ref (ad 0)), (2, .ref (am 0)), (3, .ref ao), (4, .int x4)] [0, 1, 2, 3, 4] rfl ?_
        exact hb23 Z7 ts4 _ hZ7 hf
      · replace hf := (if_neg c12).symm.trans hf
        refine L_iconst 0 dL_law_1161 (by decide) ?_
        cases hf
  · replace hf := (if_neg c10).symm.trans hf
    refine L_iconst 0 dL_law_1144 (by decide) ?_
    cases hf
def f_law_c17 (bk : S3 → Int32 → Option Unit) (xs : Nat → Int32) (L : Nat) (S : S3) (x4 : Int32) : Option Unit := ixo (x4 + (1)) L (lt (xs (Int32.toNatClampNeg (x4 + (1)))) fun a1 => ixo (x4 + (2)) L (lt (xs (Int32.toNatClampNeg (x4 + (2)))) fun a2 => ixo (x4 + (3)) L (lt (xs (Int32.toNatClampNeg (x4 + (3)))) fun a3 => bno (f_X9_playAt S.1.1 a1 a2 a3) fun q4 => grc [2, 0] q4.1 (lt ((q4.2, S.1.2), (wo q4.1 S.2.1, S.2.2)) fun Z5 => ixo (x4 + (1)) L (lt (xs (Int32.toNatClampNeg (x4 + (1)))) fun a7 => ixo (x4 + (2)) L (lt (xs (Int32.toNatClampNeg (x4 + (2)))) fun a8 => ixo (x4 + (3)) L (lt (xs (Int32.toNatClampNeg (x4 + (3)))) fun a9 => bno (f_X10_playAt Z5.2.2 a7 a8 a9) fun r10 => lt (Z5.1, (Z5.2.1, r10.2)) fun Z11 => bno (f_X10_thrown Z11.2.2) fun r12 => if r12 = (wk [2, 0] q4.1) then (if (wk [2, 0] q4.1) = 0 then (if (lg_cmp (Z11.2.1 0) (Int32.toInt64 r10.1)) = 0 then (bk Z11 x4) else (none)) else (bk Z11 x4)) else (none))))))))
set_option maxHeartbeats 8000000 in
set_option maxRecDepth 100000 in
theorem v_law_c17 {l : Launch} {G : Gv} {b L : Nat} {xs : Nat → Int32} {ad am : Nat → Nat} {ao : Nat} {bk : S3 → Int32 → Option Unit} {ce sl : Nat} {S : S3} {ts : List Tb} {x4 : Int32} (hce : ce + 16 ≤ 601024) (hsl : sl + 256 ≤ 7293034) (hts : ts.map (fun q => q.2) = S.1.2.2.2) (hb23 : ∀ (S : S3) (ts : List Tb) (x4 : Int32), ts.map (fun q => q.2) = S.1.2.2.2 → bk S x4 = some () → VL l G b L xs (ce + 16) (sl + 256) (wO G ad S.1 ts ao S.2.1 ++ wM G am S.2.2) 1472 [(0, .ref b), (1, .ref (ad 0)), (2, .ref (am 0)), (3, .ref ao), (4, .int x4)] []) (hf : f_law_c17 bk xs L S x4 = some ()) : VL l G b L xs ce sl (wO G ad S.1 ts ao S.2.1 ++ wM G am S.2.2) 1166 [(0, .ref b), (1, .ref (ad 0)), (2, .ref (am 0)), (3, .ref ao), (4, .int x4)] [] := by
  unfold f_law_c17 at hf
  refine L_aload_n 1 rfl dL_law_1166 rfl ?_
  refine L_aload_n 0 rfl dL_law_1167 rfl ?_
  refine L_iload 4 rfl dL_law_1168 ?_
  refine L_iconst 1 dL_law_1170 (by decide) ?_
  refine L_iadd dL_law_1171 ?_
  obtain ⟨hi, hf⟩ := ixo_some hf
  refine L_sld hi dL_law_1172 ?_
  obtain ⟨a1, ea1, hf⟩ := lt_some hf
  refine L_st (st1 := [.int a1, .ref (ad 0)]) (by rw [ea1]) ?_
  refine L_aload_n 0 rfl dL_law_1173 rfl ?_
  refine L_iload 4 rfl dL_law_1174 ?_
  refine L_iconst 2 dL_law_1176 (by decide) ?_
  refine L_iadd dL_law_1177 ?_
  obtain ⟨hi, hf⟩ := ixo_some hf
  refine L_sld hi dL_law_1178 ?_
  obtain ⟨a2, ea2, hf⟩ := lt_some hf
  refine L_st (st1 := [.int a2, .int a1, .ref (ad 0)]) (by rw [ea2]) ?_
  refine L_aload_n 0 rfl dL_law_1179 rfl ?_
  refine L_iload 4 rfl dL_law_1180 ?_
  refine L_iconst 3 dL_law_1182 (by decide) ?_
  refine L_iadd dL_law_1183 ?_
  obtain ⟨hi, hf⟩ := ixo_some hf
  refine L_sld hi dL_law_1184 ?_
  obtain ⟨a3, ea3, hf⟩ := lt_some hf
  refine L_st (st1 := [.int a3, .int a2, .int a1, .ref (ad 0)]) (by rw [ea3]) ?_
  refine L_aload_n 3 rfl dL_law_1185 rfl ?_
  obtain ⟨q4, hq4, hf⟩ := bno_some hf
  obtain ⟨hcq4, hf⟩ := grc_some hf
  obtain ⟨Z5, eZ5, hf⟩ := lt_some hf
  refine L_wrap (As := [.ref (ad 0), .int a1, .int a2, .int a3, .ref ao]) (rest := []) (k_L_playAt (d := 10) (Nat.le_refl _) hts hcq4 hq4) LBW_playAt lkL_146 (by decide) dL_law_1186 rfl rfl (Nat.le_of_ble_eq_true rfl) ⟨by omega, by omega⟩ (fun w1 hw => ?_)
  obtain ⟨ts6, hts6, rfl⟩ := hw
  refine L_ws (ws1 := (wO G ad Z5.1 ts6 ao Z5.2.1 ++ wM G am Z5.2.2)) (by rw [eZ5]) ?_
  have hts6 : ts6.map (fun q => q.2) = Z5.1.2.2.2 := by rw [eZ5]; exact hts6
  refine L_istore [(0, .ref b), (1, .ref (ad 0)), (2, .ref (am 0)), (3, .ref ao), (4, .int x4), (5, .int (wk [2, 0] q4.1))] [1, 2, 3, 4, 5, 0] dL_law_1189 (by decide) rfl ?_
  refine L_aload_n 2 rfl dL_law_1191 rfl ?_
  refine L_aload_n 0 rfl dL_law_1192 rfl ?_
  refine L_iload 4 rfl dL_law_1193 ?_
  refine L_iconst 1 dL_law_1195 (by decide) ?_
  refine L_iadd dL_law_1196 ?_
  obtain ⟨hi, hf⟩ := ixo_some hf
  refine L_sld hi dL_law_1197 ?_
  obtain ⟨a7, ea7, hf⟩ := lt_some hf
  refine L_st (st1 := [.int a7, .ref (am 0)]) (by rw [ea7]) ?_
  refine L_aload_n 0 rfl dL_law_1198 rfl ?_
  refine L_iload 4 rfl dL_law_1199 ?_
  refine L_iconst 2 dL_law_1201 (by decide) ?_
  refine L_iadd dL_law_1202 ?_
  obtain ⟨hi, hf⟩ := ixo_some hf
  refine L_sld hi dL_law_1203 ?_
  obtain ⟨a8, ea8, hf⟩ := lt_some hf
  refine L_st (st1 := [.int a8, .int a7, .ref (am 0)]) (by rw [ea8]) ?_
  refine L_aload_n 0 rfl dL_law_1204 rfl ?_
  refine L_iload 4 rfl dL_law_1205 ?_
  refine L_iconst 3 dL_law_1207 (by decide) ?_
  refine L_iadd dL_law_1208 ?_
  obtain ⟨hi, hf⟩ := ixo_some hf
  refine L_sld hi dL_law_1209 ?_
  obtain ⟨a9, ea9, hf⟩ := lt_some hf
  refine L_st (st1 := [.int a9, .int a8, .int a7, .ref (am 0)]) (by rw [ea9]) ?_
  obtain ⟨r10, hr10, hf⟩ := bno_some hf
  refine L_cVr (wr := wO G ad Z5.1 ts6 ao Z5.2.1) (As := [.int a7, .int a8, .int a9]) (rest := []) (k_X10_playAt (d := 7) (Nat.le_refl _) hr10) LB_X10_playAt lk_L_148 (by decide) dL_law_1210 rfl rfl (Nat.le_of_ble_eq_true rfl) (by omega) (by omega) 0 rfl ⟨rfl, rfl⟩ [.int r10.1] rfl ?_
  obtain ⟨Z11, eZ11, hf⟩ := lt_some hf
  refine L_ws (ws1 := (wO G ad Z11.1 ts6 ao Z11.2.1 ++ wM G am Z11.2.2)) (by rw [eZ11]) ?_
  have hZ11 : ts6.map (fun q => q.2) = Z11.1.2.2.2 := by rw [eZ11]; exact hts6
  refine L_istore [(0, .ref b), (1, .ref (ad 0)), (2, .ref (am 0)), (3, .ref ao), (4, .int x4), (5, .int (wk [2, 0] q4.1)), (6, .int r10.1)] [1, 2, 3, 4, 5, 6, 0] dL_law_1213 (by decide) rfl ?_
  refine L_aload_n 2 rfl dL_law_1215 rfl ?_
  obtain ⟨r12, hr12, hf⟩ := bno_some hf
  refine L_cVr (wr := wO G ad Z11.1 ts6 ao Z11.2.1) (As := []) (rest := []) (k_X10_thrown (d := 0) (Nat.le_refl _) hr12) LB_X10_thrown lk_L_88 (by decide) dL_law_1216 rfl rfl (Nat.le_of_ble_eq_true rfl) (by omega) (by omega) 0 rfl ⟨rfl, rfl⟩ [.int r12] rfl ?_
  refine L_iload 5 rfl dL_law_1219 ?_
  refine L_icmp_eq 1226 dL_law_1221 (by decide) (fun c14 => ?_) (fun c14 => ?_)
  · replace hf := (if_pos c14).symm.trans hf
    refine L_iload 5 rfl dL_law_1226 ?_
    refine L_if_ne 1243 dL_law_1228 (by decide) (fun c15 => ?_) (fun c15 => ?_)
    · replace hf := (if_neg c15).symm.trans hf
      refine L_goto 1472 dL_law_1243 (by decide) ?_
      refine L_lv [(0, .ref b), (1, .ref (ad 0)), (2, .ref (am 0)), (3, .ref ao), (4, .int x4)] [0, 1, 2, 3, 4] rfl ?_
      exact hb23 Z11 ts6 _ hZ11 hf
    · replace hf := (if_pos c15).symm.trans hf
      refine L_aload_n 3 rfl dL_law_1231 rfl ?_
      refine L_iconst 0 dL_law_1232 (by decide) ?_
      refine L_laload dL_law_1233 (15 + (wTs G ts6).length) (wL_out G ad am ao Z11 ts6) vp01 ?_
      refine L_st (st1 := [.long (Z11.2.1 0)]) rfl ?_
      refine L_iload 6 rfl dL_law_1234 ?_
      refine L_i2l dL_law_1236 ?_
      refine L_lcmp dL_law_1237 ?_
      refine L_if_eq 1243 dL_law_1238 (by decide) (fun c16 => ?_) (fun c16 => ?_)
      · replace hf := (if_pos c16).symm.trans hf
        refine L_goto 1472 dL_law_1243 (by decide) ?_
        refine L_lv [(0, .ref b), (1, .ref (ad 0)), (2, .ref (am 0)), (3, .ref ao), (4, .int x4)] [0, 1, 2, 3, 4] rfl ?_
        exact hb23 Z11 ts6 _ hZ11 hf
      · replace hf := (if_neg c16).symm.trans hf
        refine L_iconst 0 dL_law_1241 (by decide) ?_
        cases hf
  · replace hf := (if_neg c14).symm.trans hf
    refine L_iconst 0 dL_law_1224 (by decide) ?_
    cases hf
def f_law_c18 (bk : S3 → Int32 → Option Unit) (xs : Nat → Int32) (L : Nat) (S : S3) (x4 : Int32) : Option Unit := ixo (x4 + (1)) L (lt (xs (Int32.toNatClampNeg (x4 + (1)))) fun a1 => bno (f_X9_bestPlay S.1.1 a1) fun q2 => grc [2] q2.1 (lt ((q2.2, S.1.2), (wo q2.1 S.2.1, S.2.2)) fun Z3 => ixo (x4 + (1)) L (lt (xs (Int32.toNatClampNeg (x4 + (1)))) fun a5 => bno (f_X10_bestPlay Z3.2.2 a5) fun r6 => lt (Z3.1, (Z3.2.1, r6.2)) fun Z7 => bno (f_X10_thrown Z7.2.2) fun r8 => if r8 = (wk [2] q2.1) then (if (wk [2] q2.1) = 0 then (if (lg_cmp (Z7.2.1 0) (Int32.toInt64 r6.1)) = 0 then (bk Z7 x4) else (none)) else (bk Z7 x4)) else (none))))
set_option maxHeartbeats 8000000 in
set_option maxRecDepth 100000 in
theorem v_law_c18 {l : Launch} {G : Gv} {b L : Nat} {xs : Nat → Int32} {ad am : Nat → Nat} {ao : Nat} {bk : S3 → Int32 → Option Unit} {ce sl : Nat} {S : S3} {ts : List Tb} {x4 : Int32} (hce : ce + 16 ≤ 601024) (hsl : sl + 256 ≤ 7293034) (hts : ts.map (fun q => q.2) = S.1.2.2.2) (hb23 : ∀ (S : S3) (ts : List Tb) (x4 : Int32), ts.map (fun q => q.2) = S.1.2.2.2 → bk S x4 = some () → VL l G b L xs (ce + 16) (sl + 256) (wO G ad S.1 ts ao S.2.1 ++ wM G am S.2.2) 1472 [(0, .ref b), (1, .ref (ad 0)), (2, .ref (am 0)), (3, .ref ao), (4, .int x4)] []) (hf : f_law_c18 bk xs L S x4 = some ()) : VL l G b L xs ce sl (wO G ad S.1 ts ao S.2.1 ++ wM G am S.2.2) 1246 [(0, .ref b), (1, .ref (ad 0)), (2, .ref (am 0)), (3, .ref ao), (4, .int x4)] [] := by
  unfold f_law_c18 at hf
  refine L_aload_n 1 rfl dL_law_1246 rfl ?_
  refine L_aload_n 0 rfl dL_law_1247 rfl ?_
  refine L_iload 4 rfl dL_law_1248 ?_
  refine L_iconst 1 dL_law_1250 (by decide) ?_
  refine L_iadd dL_law_1251 ?_
  obtain ⟨hi, hf⟩ := ixo_some hf
  refine L_sld hi dL_law_1252 ?_
  obtain ⟨a1, ea1, hf⟩ := lt_some hf
  refine L_st (st1 := [.int a1, .ref (ad 0)]) (by rw [ea1]) ?_
  refine L_aload_n 3 rfl dL_law_1253 rfl ?_
  obtain ⟨q2, hq2, hf⟩ := bno_some hf
  obtain ⟨hcq2, hf⟩ := grc_some hf
  obtain ⟨Z3, eZ3, hf⟩ := lt_some hf
  refine L_wrap (As := [.ref (ad 0), .int a1, .ref ao]) (rest := []) (k_L_bestPlay (d := 10) (Nat.le_refl _) hts hcq2 hq2) LBW_bestPlay lkL_149 (by decide) dL_law_1254 rfl rfl (Nat.le_of_ble_eq_true rfl) ⟨by omega, by omega⟩ (fun w1 hw => ?_)
  obtain ⟨ts4, hts4, rfl⟩ := hw
  refine L_ws (ws1 := (wO G ad Z3.1 ts4 ao Z3.2.1 ++ wM G am Z3.2.2)) (by rw [eZ3]) ?_
  have hts4 : ts4.map (fun q => q.2) = Z3.1.2.2.2 := by rw [eZ3]; exact hts4
  refine L_istore [(0, .ref b), (1, .ref (ad 0)), (2, .ref (am 0)), (3, .ref ao), (4, .int x4), (5, .int (wk [2] q2.1))] [1, 2, 3, 4, 5, 0] dL_law_1257 (by decide) rfl ?_
  refine L_aload_n 2 rfl dL_law_1259 rfl ?_
  refine L_aload_n 0 rfl dL_law_1260 rfl ?_
  refine L_iload 4 rfl dL_law_1261 ?_
  refine L_iconst 1 dL_law_1263 (by decide) ?_
  refine L_iadd dL_law_1264 ?_
  obtain ⟨hi, hf⟩ := ixo_some hf
  refine L_sld hi dL_law_1265 ?_
  obtain ⟨a5, ea5, hf⟩ := lt_some hf
  refine L_st (st1 := [.int a5, .ref (am 0)]) (by rw [ea5]) ?_
  obtain ⟨r6, hr6, hf⟩ := bno_some hf
  refine L_cVr (wr := wO G ad Z3.1 ts4 ao Z3.2.1) (As := [.int a5]) (rest := []) (k_X10_bestPlay (d := 7) (Nat.le_refl _) hr6) LB_X10_bestPlay lk_L_151 (by decide) dL_law_1266 rfl rfl (Nat.le_of_ble_eq_true rfl) (by omega) (by omega) 0 rfl ⟨rfl, rfl⟩ [.int r6.1] rfl ?_
  obtain ⟨Z7, eZ7, hf⟩ := lt_some hf
  refine L_ws (ws1 := (wO G ad Z7.1 ts4 ao Z7.2.1 ++ wM G am Z7.2.2)) (by rw [eZ7]) ?_
  have hZ7 : ts4.map (fun q => q.2) = Z7.1.2.2.2 := by rw [eZ7]; exact hts4
  refine L_istore [(0, .ref b), (1, .ref (ad 0)), (2, .ref (am 0)), (3, .ref ao), (4, .int x4), (5, .int (wk [2] q2.1)), (6, .int r6.1)] [1, 2, 3, 4, 5, 6, 0] dL_law_1269 (by decide) rfl ?_
  refine L_aload_n 2 rfl dL_law_1271 rfl ?_
  obtain ⟨r8, hr8, hf⟩ := bno_some hf
  refine L_cVr (wr := wO G ad Z7.1 ts4 ao Z7.2.1) (As := []) (rest := []) (k_X10_thrown (d := 0) (Nat.le_refl _) hr8) LB_X10_thrown lk_L_88 (by decide) dL_law_1272 rfl rfl (Nat.le_of_ble_eq_true rfl) (by omega) (by omega) 0 rfl ⟨rfl, rfl⟩ [.int r8] rfl ?_
  refine L_iload 5 rfl dL_law_1275 ?_
  refine L_icmp_eq 1282 dL_law_1277 (by decide) (fun c10 => ?_) (fun c10 => ?_)
  · replace hf := (if_pos c10).symm.trans hf
    refine L_iload 5 rfl dL_law_1282 ?_
    refine L_if_ne 1299 dL_law_1284 (by decide) (fun c11 => ?_) (fun c11 => ?_)
    · replace hf := (if_neg c11).symm.trans hf
      refine L_goto 1472 dL_law_1299 (by decide) ?_
      refine L_lv [(0, .ref b), (1, .ref (ad 0)), (2, .ref (am 0)), (3, .ref ao), (4, .int x4)] [0, 1, 2, 3, 4] rfl ?_
      exact hb23 Z7 ts4 _ hZ7 hf
    · replace hf := (if_pos c11).symm.trans hf
      refine L_aload_n 3 rfl dL_law_1287 rfl ?_
      refine L_iconst 0 dL_law_1288 (by decide) ?_
      refine L_laload dL_law_1289 (15 + (wTs G ts4).length) (wL_out G ad am ao Z7 ts4) vp01 ?_
      refine L_st (st1 := [.long (Z7.2.1 0)]) rfl ?_
      refine L_iload 6 rfl dL_law_1290 ?_
      refine L_i2l dL_law_1292 ?_
      refine L_lcmp dL_law_1293 ?_
      refine L_if_eq 1299 dL_law_1294 (by decide) (fun c12 => ?_) (fun c12 => ?_)
      · replace hf := (if_pos c12).symm.trans hf
        refine L_goto 1472 dL_law_1299 (by decide) ?_
        refine L_lv [(0, .ref b), (1, .ref (ad 0)), (2, .ref (am 0)), (3, .ref ao), (4, .int x4)] [0, 1, 2, 3, 4] rfl ?_
        exact hb23 Z7 ts4 _ hZ7 hf
      · replace hf := (if_neg c12).symm.trans hf
        refine L_iconst 0 dL_law_1297 (by decide) ?_
        cases hf
  · replace hf := (if_neg c10).symm.trans hf
    refine L_iconst 0 dL_law_1280 (by decide) ?_
    cases hf
def f_law_c19 (bk : S3 → Int32 → Option Unit) (xs : Nat → Int32) (L : Nat) (S : S3) (x4 : Int32) : Option Unit := ixo (x4 + (1)) L (lt (xs (Int32.toNatClampNeg (x4 + (1)))) fun a1 => bno (f_X9_playBest S.1 a1) fun q2 => grc [2, 1] q2.1 (lt (q2.2, (wo q2.1 S.2.1, S.2.2)) fun Z3 => ixo (x4 + (1)) L (lt (xs (Int32.toNatClampNeg (x4 + (1)))) fun a5 => bno (f_X10_playBest Z3.2.2 a5) fun r6 => lt (Z3.1, (Z3.2.1, r6.2)) fun Z7 => bno (f_X10_thrown Z7.2.2) fun r8 => if r8 = (wk [2, 1] q2.1) then (if (wk [2, 1] q2.1) = 0 then (if (lg_cmp (Z7.2.1 0) (Int32.toInt64 r6.1)) = 0 then (bk Z7 x4) else (none)) else (bk Z7 x4)) else (none))))
set_option maxHeartbeats 8000000 in
set_option maxRecDepth 100000 in
theorem v_law_c19 {l : Launch} {G : Gv} {b L : Nat} {xs : Nat → Int32} {ad am : Nat → Nat} {ao : Nat} {bk : S3 → Int32 → Option Unit} {ce sl : Nat} {S : S3} {ts : List Tb} {x4 : Int32} (hce : ce + 16 ≤ 601024) (hsl : sl + 256 ≤ 7293034) (hts : ts.map (fun q => q.2) = S.1.2.2.2) (hb23 : ∀ (S : S3) (ts : List Tb) (x4 : Int32), ts.map (fun q => q.2) = S.1.2.2.2 → bk S x4 = some () → VL l G b L xs (ce + 16) (sl + 256) (wO G ad S.1 ts ao S.2.1 ++ wM G am S.2.2) 1472 [(0, .ref b), (1, .ref (ad 0)), (2, .ref (am 0)), (3, .ref ao), (4, .int x4)] []) (hf : f_law_c19 bk xs L S x4 = some ()) : VL l G b L xs ce sl (wO G ad S.1 ts ao S.2.1 ++ wM G am S.2.2) 1302 [(0, .ref b), (1, .ref (ad 0)), (2, .ref (am 0)), (3, .ref ao), (4, .int x4)] [] := by
  unfold f_law_c19 at hf
  refine L_aload_n 1 rfl dL_law_1302 rfl ?_
  refine L_aload_n 0 rfl dL_law_1303 rfl ?_
  refine L_iload 4 rfl dL_law_1304 ?_
  refine L_iconst 1 dL_law_1306 (by decide) ?_
  refine L_iadd dL_law_1307 ?_
  obtain ⟨hi, hf⟩ := ixo_some hf
  refine L_sld hi dL_law_1308 ?_
  obtain ⟨a1, ea1, hf⟩ := lt_some hf
  refine L_st (st1 := [.int a1, .ref (ad 0)]) (by rw [ea1]) ?_
  refine L_aload_n 3 rfl dL_law_1309 rfl ?_
  obtain ⟨q2, hq2, hf⟩ := bno_some hf
  obtain ⟨hcq2, hf⟩ := grc_some hf
  obtain ⟨Z3, eZ3, hf⟩ := lt_some hf
  refine L_wrap (As := [.ref (ad 0), .int a1, .ref ao]) (rest := []) (k_L_playBest (d := 11) (Nat.le_refl _) hts hcq2 hq2) LBW_playBest lkL_152 (by decide) dL_law_1310 rfl rfl (Nat.le_of_ble_eq_true rfl) ⟨by omega, by omega⟩ (fun w1 hw => ?_)
  obtain ⟨ts4, hts4, rfl⟩ := hw
  refine L_ws (ws1 := (wO G ad Z3.1 ts4 ao Z3.2.1 ++ wM G am Z3.2.2)) (by rw [eZ3]) ?_
  have hts4 : ts4.map (fun q => q.2) = Z3.1.2.2.2 := by rw [eZ3]; exact hts4
  refine L_istore [(0, .ref b), (1, .ref (ad 0)), (2, .ref (am 0)), (3, .ref ao), (4, .int x4), (5, .int (wk [2, 1] q2.1))] [1, 2, 3, 4, 5, 0] dL_law_1313 (by decide) rfl ?_
  refine L_aload_n 2 rfl dL_law_1315 rfl ?_
  refine L_aload_n 0 rfl dL_law_1316 rfl ?_
  refine L_iload 4 rfl dL_law_1317 ?_
  refine L_iconst 1 dL_law_1319 (by decide) ?_
  refine L_iadd dL_law_1320 ?_
  obtain ⟨hi, hf⟩ := ixo_some hf
  refine L_sld hi dL_law_1321 ?_
  obtain ⟨a5, ea5, hf⟩ := lt_some hf
  refine L_st (st1 := [.int a5, .ref (am 0)]) (by rw [ea5]) ?_
  obtain ⟨r6, hr6, hf⟩ := bno_some hf
  refine L_cVr (wr := wO G ad Z3.1 ts4 ao Z3.2.1) (As := [.int a5]) (rest := []) (k_X10_playBest (d := 7) (Nat.le_refl _) hr6) LB_X10_playBest lk_L_154 (by decide) dL_law_1322 rfl rfl (Nat.le_of_ble_eq_true rfl) (by omega) (by omega) 0 rfl ⟨rfl, rfl⟩ [.int r6.1] rfl ?_
  obtain ⟨Z7, eZ7, hf⟩ := lt_some hf
  refine L_ws (ws1 := (wO G ad Z7.1 ts4 ao Z7.2.1 ++ wM G am Z7.2.2)) (by rw [eZ7]) ?_
  have hZ7 : ts4.map (fun q => q.2) = Z7.1.2.2.2 := by rw [eZ7]; exact hts4
  refine L_istore [(0, .ref b), (1, .ref (ad 0)), (2, .ref (am 0)), (3, .ref ao), (4, .int x4), (5, .int (wk [2, 1] q2.1)), (6, .int r6.1)] [1, 2, 3, 4, 5, 6, 0] dL_law_1325 (by decide) rfl ?_
  refine L_aload_n 2 rfl dL_law_1327 rfl ?_
  obtain ⟨r8, hr8, hf⟩ := bno_some hf
  refine L_cVr (wr := wO G ad Z7.1 ts4 ao Z7.2.1) (As := []) (rest := []) (k_X10_thrown (d := 0) (Nat.le_refl _) hr8) LB_X10_thrown lk_L_88 (by decide) dL_law_1328 rfl rfl (Nat.le_of_ble_eq_true rfl) (by omega) (by omega) 0 rfl ⟨rfl, rfl⟩ [.int r8] rfl ?_
  refine L_iload 5 rfl dL_law_1331 ?_
  refine L_icmp_eq 1338 dL_law_1333 (by decide) (fun c10 => ?_) (fun c10 => ?_)
  · replace hf := (if_pos c10).symm.trans hf
    refine L_iload 5 rfl dL_law_1338 ?_
    refine L_if_ne 1355 dL_law_1340 (by decide) (fun c11 => ?_) (fun c11 => ?_)
    · replace hf := (if_neg c11).symm.trans hf
      refine L_goto 1472 dL_law_1355 (by decide) ?_
      refine L_lv [(0, .ref b), (1, .ref (ad 0)), (2, .ref (am 0)), (3, .ref ao), (4, .int x4)] [0, 1, 2, 3, 4] rfl ?_
      exact hb23 Z7 ts4 _ hZ7 hf
    · replace hf := (if_pos c11).symm.trans hf
      refine L_aload_n 3 rfl dL_law_1343 rfl ?_
      refine L_iconst 0 dL_law_1344 (by decide) ?_
      refine L_laload dL_law_1345 (15 + (wTs G ts4).length) (wL_out G ad am ao Z7 ts4) vp01 ?_
      refine L_st (st1 := [.long (Z7.2.1 0)]) rfl ?_
      refine L_iload 6 rfl dL_law_1346 ?_
      refine L_i2l dL_law_1348 ?_
      refine L_lcmp dL_law_1349 ?_
      refine L_if_eq 1355 dL_law_1350 (by decide) (fun c12 => ?_) (fun c12 => ?_)
      · replace hf := (if_pos c12).symm.trans hf
        refine L_goto 1472 dL_law_1355 (by decide) ?_
        refine L_lv [(0, .ref b), (1, .ref (ad 0)), (2, .ref (am 0)), (3, .ref ao), (4, .int x4)] [0, 1, 2, 3, 4] rfl ?_
        exact hb23 Z7 ts4 _ hZ7 hf
      · replace hf := (if_neg c12).symm.trans hf
        refine L_iconst 0 dL_law_1353 (by decide) ?_
        cases hf
  · replace hf := (if_neg c10).symm.trans hf
    refine L_iconst 0 dL_law_1336 (by decide) ?_
    cases hf
def f_law_c20 (bk : S3 → Int32 → Option Unit) (xs : Nat → Int32) (L : Nat) (S : S3) (x4 : Int32) : Option Unit := ixo (x4 + (1)) L (lt (xs (Int32.toNatClampNeg (x4 + (1)))) fun a1 => bno (f_X9_endgame S.1.1 a1) fun q2 => grc [2, 1] q2.1 (lt ((q2.2, S.1.2), (wo q2.1 S.2.1, S.2.2)) fun Z3 => ixo (x4 + (1)) L (lt (xs (Int32.toNatClampNeg (x4 + (1)))) fun a5 => bno (f_X10_endgame Z3.2.2 a5) fun r6 => lt (Z3.1, (Z3.2.1, r6.2)) fun Z7 => bno (f_X10_thrown Z7.2.2) fun r8 => if r8 = (wk [2, 1] q2.1) then (if (wk [2, 1] q2.1) = 0 then (if (lg_cmp (Z7.2.1 0) (Int32.toInt64 r6.1)) = 0 then (bk Z7 x4) else (none)) else (bk Z7 x4)) else (none))))
set_option maxHeartbeats 8000000 in
set_option maxRecDepth 100000 in
theorem v_law_c20 {l : Launch} {G : Gv} {b L : Nat} {xs : Nat → Int32} {ad am : Nat → Nat} {ao : Nat} {bk : S3 → Int32 → Option Unit} {ce sl : Nat} {S : S3} {ts : List Tb} {x4 : Int32} (hce : ce + 16 ≤ 601024) (hsl : sl + 256 ≤ 7293034) (hts : ts.map (fun q => q.2) = S.1.2.2.2) (hb23 : ∀ (S : S3) (ts : List Tb) (x4 : Int32), ts.map (fun q => q.2) = S.1.2.2.2 → bk S x4 = some () → VL l G b L xs (ce + 16) (sl + 256) (wO G ad S.1 ts ao S.2.1 ++ wM G am S.2.2) 1472 [(0, .ref b), (1, .ref (ad 0)), (2, .ref (am 0)), (3, .ref ao), (4, .int x4)] []) (hf : f_law_c20 bk xs L S x4 = some ()) : VL l G b L xs ce sl (wO G ad S.1 ts ao S.2.1 ++ wM G am S.2.2) 1358 [(0, .ref b), (1, .ref (ad 0)), (2, .ref (am 0)), (3, .ref ao), (4, .int x4)] [] := by
  unfold f_law_c20 at hf
  refine L_aload_n 1 rfl dL_law_1358 rfl ?_
  refine L_aload_n 0 rfl dL_law_1359 rfl ?_
  refine L_iload 4 rfl dL_law_1360 ?_
  refine L_iconst 1 dL_law_1362 (by decide) ?_
  refine L_iadd dL_law_1363 ?_
  obtain ⟨hi, hf⟩ := ixo_some hf
  refine L_sld hi dL_law_1364 ?_
  obtain ⟨a1, ea1, hf⟩ := lt_some hf
  refine L_st (st1 := [.int a1, .ref (ad 0)]) (by rw [ea1]) ?_
  refine L_aload_n 3 rfl dL_law_1365 rfl ?_
  obtain ⟨q2, hq2, hf⟩ := bno_some hf
  obtain ⟨hcq2, hf⟩ := grc_some hf
  obtain ⟨Z3, eZ3, hf⟩ := lt_some hf
  refine L_wrap (As := [.ref (ad 0), .int a1, .ref ao]) (rest := []) (k_L_endgame (d := 1061) (Nat.le_refl _) hts hcq2 hq2) LBW_endgame lkL_155 (by decide) dL_law_1366 rfl rfl (Nat.le_of_ble_eq_true rfl) ⟨by omega, by omega⟩ (fun w1 hw => ?_)
  obtain ⟨ts4, hts4, rfl⟩ := hw
  refine L_ws (ws1 := (wO G ad Z3.1 ts4 ao Z3.2.1 ++ wM G am Z3.2.2)) (by rw [eZ3]) ?_
  have hts4 : ts4.map (fun q => q.2) = Z3.1.2.2.2 := by rw [eZ3]; exact hts4
  refine L_istore [(0, .ref b), (1, .ref (ad 0)), (2, .ref (am 0)), (3, .ref ao), (4, .int x4), (5, .int (wk [2, 1] q2.1))] [1, 2, 3, 4, 5, 0] dL_law_1369 (by decide) rfl ?_
  refine L_aload_n 2 rfl dL_law_1371 rfl ?_
  refine L_aload_n 0 rfl dL_law_1372 rfl ?_
  refine L_iload 4 rfl dL_law_1373 ?_
  refine L_iconst 1 dL_law_1375 (by decide) ?_
  refine L_iadd dL_law_1376 ?_
  obtain ⟨hi, hf⟩ := ixo_some hf
  refine L_sld hi dL_law_1377 ?_
  obtain ⟨a5, ea5, hf⟩ := lt_some hf
  refine L_st (st1 := [.int a5, .ref (am 0)]) (by rw [ea5]) ?_
  obtain ⟨r6, hr6, hf⟩ := bno_some hf
  refine L_cVr (wr := wO G ad Z3.1 ts4 ao Z3.2.1) (As := [.int a5]) (rest := []) (k_X10_endgame (d := 7) (Nat.le_refl _) hr6) LB_X10_endgame lk_L_157 (by decide) dL_law_1378 rfl rfl (Nat.le_of_ble_eq_true rfl) (by omega) (by omega) 0 rfl ⟨rfl, rfl⟩ [.int r6.1] rfl ?_
  obtain ⟨Z7, eZ7, hf⟩ := lt_some hf
  refine L_ws (ws1 := (wO G ad Z7.1 ts4 ao Z7.2.1 ++ wM G am Z7.2.2)) (by rw [eZ7]) ?_
  have hZ7 : ts4.map (fun q => q.2) = Z7.1.2.2.2 := by rw [eZ7]; exact hts4
  refine L_istore [(0, .ref b), (1, .ref (ad 0)), (2, .ref (am 0)), (3, .ref ao), (4, .int x4), (5, .int (wk [2, 1] q2.1)), (6, .int r6.1)] [1, 2, 3, 4, 5, 6, 0] dL_law_1381 (by decide) rfl ?_
  refine L_aload_n 2 rfl dL_law_1383 rfl ?_
  obtain ⟨r8, hr8, hf⟩ := bno_some hf
  refine L_cVr (wr := wO G ad Z7.1 ts4 ao Z7.2.1) (As := []) (rest := []) (k_X10_thrown (d := 0) (Nat.le_refl _) hr8) LB_X10_thrown lk_L_88 (by decide) dL_law_1384 rfl rfl (Nat.le_of_ble_eq_true rfl) (by omega) (by omega) 0 rfl ⟨rfl, rfl⟩ [.int r8] rfl ?_
  refine L_iload 5 rfl dL_law_1387 ?_
  refine L_icmp_eq 1394 dL_law_1389 (by decide) (fun c10 => ?_) (fun c10 => ?_)
  · replace hf := (if_pos c10).symm.trans hf
    refine L_iload 5 rfl dL_law_1394 ?_
    refine L_if_ne 1411 dL_law_1396 (by decide) (fun c11 => ?_) (fun c11 => ?_)
    · replace hf := (if_neg c11).symm.trans hf
      refine L_goto 1472 dL_law_1411 (by decide) ?_
      refine L_lv [(0, .ref b), (1, .ref (ad 0)), (2, .ref (am 0)), (3, .ref ao), (4, .int x4)] [0, 1, 2, 3, 4] rfl ?_
      exact hb23 Z7 ts4 _ hZ7 hf
    · replace hf := (if_pos c11).symm.trans hf
      refine L_aload_n 3 rfl dL_law_1399 rfl ?_
      refine L_iconst 0 dL_law_1400 (by decide) ?_
      refine L_laload dL_law_1401 (15 + (wTs G ts4).length) (wL_out G ad am ao Z7 ts4) vp01 ?_
      refine L_st (st1 := [.long (Z7.2.1 0)]) rfl ?_
      refine L_iload 6 rfl dL_law_1402 ?_
      refine L_i2l dL_law_1404 ?_
      refine L_lcmp dL_law_1405 ?_
      refine L_if_eq 1411 dL_law_1406 (by decide) (fun c12 => ?_) (fun c12 => ?_)
      · replace hf := (if_pos c12).symm.trans hf
        refine L_goto 1472 dL_law_1411 (by decide) ?_
        refine L_lv [(0, .ref b), (1, .ref (ad 0)), (2, .ref (am 0)), (3, .ref ao), (4, .int x4)] [0, 1, 2, 3, 4] rfl ?_
        exact hb23 Z7 ts4 _ hZ7 hf
      · replace hf := (if_neg c12).symm.trans hf
        refine L_iconst 0 dL_law_1409 (by decide) ?_
        cases hf
  · replace hf := (if_neg c10).symm.trans hf
    refine L_iconst 0 dL_law_1392 (by decide) ?_
    cases hf
def f_law_c21 (bk : S3 → Int32 → Option Unit) (xs : Nat → Int32) (L : Nat) (S : S3) (x4 : Int32) : Option Unit := bno (f_X9_undo S.1) fun q1 => grc [1] q1.1 (lt (q1.2, (wo q1.1 S.2.1, S.2.2)) fun Z2 => bno (f_X10_undo Z2.2.2) fun r4 => lt (Z2.1, (Z2.2.1, r4.2)) fun Z5 => bno (f_X10_thrown Z5.2.2) fun r6 => if r6 = (wk [1] q1.1) then (if (wk [1] q1.1) = 0 then (if (lg_cmp (Z5.2.1 0) (Int32.toInt64 r4.1)) = 0 then (bk Z5 x4) else (none)) else (bk Z5 x4)) else (none))
set_option maxHeartbeats 8000000 in
set_option maxRecDepth 100000 in
theorem v_law_c21 {l : Launch} {G : Gv} {b L : Nat} {xs : Nat → Int32} {ad am : Nat → Nat} {ao : Nat} {bk : S3 → Int32 → Option Unit} {ce sl : Nat} {S : S3} {ts : List Tb} {x4 : Int32} (hce : ce + 16 ≤ 601024) (hsl : sl + 256 ≤ 7293034) (hts : ts.map (fun q => q.2) = S.1.2.2.2) (hb23 : ∀ (S : S3) (ts : List Tb) (x4 : Int32), ts.map (fun q => q.2) = S.1.2.2.2 → bk S x4 = some () → VL l G b L xs (ce + 16) (sl + 256) (wO G ad S.1 ts ao S.2.1 ++ wM G am S.2.2) 1472 [(0, .ref b), (1, .ref (ad 0)), (2, .ref (am 0)), (3, .ref ao), (4, .int x4)] []) (hf : f_law_c21 bk xs L S x4 = some ()) : VL l G b L xs ce sl (wO G ad S.1 ts ao S.2.1 ++ wM G am S.2.2) 1414 [(0, .ref b), (1, .ref (ad 0)), (2, .ref (am 0)), (3, .ref ao), (4, .int x4)] [] := by
  unfold f_law_c21 at hf
  refine L_aload_n 1 rfl dL_law_1414 rfl ?_
  refine L_aload_n 3 rfl dL_law_1415 rfl ?_
  obtain ⟨q1, hq1, hf⟩ := bno_some hf
  obtain ⟨hcq1, hf⟩ := grc_some hf
  obtain ⟨Z2, eZ2, hf⟩ := lt_some hf
  refine L_wrap (As := [.ref (ad 0), .ref ao]) (rest := []) (k_L_undo (d := 9) (Nat.le_refl _) hts hcq1 hq1) LBW_undo lkL_158 (by decide) dL_law_1416 rfl rfl (Nat.le_of_ble_eq_true rfl) ⟨by omega, by omega⟩ (fun w1 hw => ?_)
  obtain ⟨ts3, hts3, rfl⟩ := hw
  refine L_ws (ws1 := (wO G ad Z2.1 ts3 ao Z2.2.1 ++ wM G am Z2.2.2)) (by rw [eZ2]) ?_
  have hts3 : ts3.map (fun q => q.2) = Z2.1.2.2.2 := by rw [eZ2]; exact hts3
  refine L_istore [(0, .ref b), (1, .ref (ad 0)), (2, .ref (am 0)), (3, .ref ao), (4, .int x4), (5, .int (wk [1] q1.1))] [1, 2, 3, 4, 5, 0] dL_law_1419 (by decide) rfl ?_
  refine L_aload_n 2 rfl dL_law_1421 rfl ?_
  obtain ⟨r4, hr4, hf⟩ := bno_some hf
  refine L_cVr (wr := wO G ad Z2.1 ts3 ao Z2.2.1) (As := []) (rest := []) (k_X10_undo (d := 1) (Nat.le_refl _) hr4) LB_X10_undo lk_L_160 (by decide) dL_law_1422 rfl rfl (Nat.le_of_ble_eq_true rfl) (by omega) (by omega) 0 rfl ⟨rfl, rfl⟩ [.int r4.1] rfl ?_
  obtain ⟨Z5, eZ5, hf⟩ := lt_some hf
  refine L_ws (ws1 := (wO G ad Z5.1 ts3 ao Z5.2.1 ++ wM G am Z5.2.2)) (by rw [eZ5]) ?_
  have hZ5 : ts3.map (fun q => q.2) = Z5.1.2.2.2 := by rw [eZ5]; exact hts3
  refine L_istore [(0, .ref b), (1, .ref (ad 0)), (2, .ref (am 0)), (3, .ref ao), (4, .int x4), (5, .int (wk [1] q1.1)), (6, .int r4.1)] [1, 2, 3, 4, 5, 6, 0] dL_law_1425 (by decide) rfl ?_
  refine L_aload_n 2 rfl dL_law_1427 rfl ?_
  obtain ⟨r6, hr6, hf⟩ := bno_some hf
  refine L_cVr (wr := wO G ad Z5.1 ts3 ao Z5.2.1) (As := []) (rest := []) (k_X10_thrown (d := 0) (Nat.le_refl _) hr6) LB_X10_thrown lk_L_88 (by decide) dL_law_1428 rfl rfl (Nat.le_of_ble_eq_true rfl) (by omega) (by omega) 0 rfl ⟨rfl, rfl⟩ [.int r6] rfl ?_
  refine L_iload 5 rfl dL_law_1431 ?_
  refine L_icmp_eq 1438 dL_law_1433 (by decide) (fun c8 => ?_) (fun c8 => ?_)
  · replace hf := (if_pos c8).symm.trans hf
    refine L_iload 5 rfl dL_law_1438 ?_
    refine L_if_ne 1455 dL_law_1440 (by decide) (fun c9 => ?_) (fun c9 => ?_)
    · replace hf := (if_neg c9).symm.trans hf
      refine L_goto 1472 dL_law_1455 (by decide) ?_
      refine L_lv [(0, .ref b), (1, .ref (ad 0)), (2, .ref (am 0)), (3, .ref ao), (4, .int x4)] [0, 1, 2, 3, 4] rfl ?_
      exact hb23 Z5 ts3 _ hZ5 hf
    · replace hf := (if_pos c9).symm.trans hf
      refine L_aload_n 3 rfl dL_law_1443 rfl ?_
      refine L_iconst 0 dL_law_1444 (by decide) ?_
      refine L_laload dL_law_1445 (15 + (wTs G ts3).length) (wL_out G ad am ao Z5 ts3) vp01 ?_
      refine L_st (st1 := [.long (Z5.2.1 0)]) rfl ?_
      refine L_iload 6 rfl dL_law_1446 ?_
      refine L_i2l dL_law_1448 ?_
      refine L_lcmp dL_law_1449 ?_
      refine L_if_eq 1455 dL_law_1450 (by decide) (fun c10 => ?_) (fun c10 => ?_)
      · replace hf := (if_pos c10).symm.trans hf
        refine L_goto 1472 dL_law_1455 (by decide) ?_
        refine L_lv [(0, .ref b), (1, .ref (ad 0)), (2, .ref (am 0)), (3, .ref ao), (4, .int x4)] [0, 1, 2, 3, 4] rfl ?_
        exact hb23 Z5 ts3 _ hZ5 hf
      · replace hf := (if_neg c10).symm.trans hf
        refine L_iconst 0 dL_law_1453 (by decide) ?_
        cases hf
  · replace hf := (if_neg c8).symm.trans hf
    refine L_iconst 0 dL_law_1436 (by decide) ?_
    cases hf
def f_law_c22 (bk : S3 → Int32 → Option Unit) (xs : Nat → Int32) (L : Nat) (S : S3) (x4 : Int32) : Option Unit := bno (f_X9_digest S.1) fun r1 => lt (r1.2, S.2) fun Z2 => bno (f_X10_digest Z2.2.2) fun r3 => lt (Z2.1, (Z2.2.1, r3.2)) fun Z4 => if (lg_cmp r1.1 r3.1) = 0 then (bk Z4 x4) else (none)
set_option maxHeartbeats 8000000 in
set_option maxRecDepth 100000 in
theorem v_law_c22 {l : Launch} {G : Gv} {b L : Nat} {xs : Nat → Int32} {ad am : Nat → Nat} {ao : Nat} {bk : S3 → Int32 → Option Unit} {ce sl : Nat} {S : S3} {ts : List Tb} {x4 : Int32} (hce : ce + 16 ≤ 601024) (hsl : sl + 256 ≤ 7293034) (hts : ts.map (fun q => q.2) = S.1.2.2.2) (hb23 : ∀ (S : S3) (ts : List Tb) (x4 : Int32), ts.map (fun q => q.2) = S.1.2.2.2 → bk S x4 = some () → VL l G b L xs (ce + 16) (sl + 256) (wO G ad S.1 ts ao S.2.1 ++ wM G am S.2.2) 1472 [(0, .ref b), (1, .ref (ad 0)), (2, .ref (am 0)), (3, .ref ao), (4, .int x4)] []) (hf : f_law_c22 bk xs L S x4 = some ()) : VL l G b L xs ce sl (wO G ad S.1 ts ao S.2.1 ++ wM G am S.2.2) 1458 [(0, .ref b), (1, .ref (ad 0)), (2, .ref (am 0)), (3, .ref ao), (4, .int x4)] [] := by
  unfold f_law_c22 at hf
  refine L_aload_n 1 rfl dL_law_1458 rfl ?_
  obtain ⟨r1, hr1, hf⟩ := bno_some hf
  refine L_ws (ws1 := wA G ad S.1 ts ++ ([(ao, .inl (G.2.2.2, 1, .inr (.inl S.2.1)))] ++ wM G am S.2.2)) (by unfold wO wA; simp only [List.append_assoc]) ?_
  refine L_cVl (As := []) (rest := []) (k_X9_digest (d := 10) (Nat.le_refl _) hts hr1) LB_X9_digest lk_L_161 (by decide) dL_law_1459 rfl rfl (Nat.le_of_ble_eq_true rfl) (by omega) (by omega) 0 rfl ⟨rfl, rfl⟩ [.long r1.1] rfl ?_
  obtain ⟨Z2, eZ2, hf⟩ := lt_some hf
  refine L_ws (ws1 := (wO G ad Z2.1 ts ao Z2.2.1 ++ wM G am Z2.2.2)) (by rw [eZ2]; unfold wO wA; simp only [List.append_assoc]) ?_
  have hZ2 : ts.map (fun q => q.2) = Z2.1.2.2.2 := by rw [eZ2]; exact digest_hts hr1 hts
  refine L_aload_n 2 rfl dL_law_1462 rfl ?_
  obtain ⟨r3, hr3, hf⟩ := bno_some hf
  refine L_cVr (wr := wO G ad Z2.1 ts ao Z2.2.1) (As := []) (rest := [.long r1.1]) (k_X10_digest (d := 7) (Nat.le_refl _) hr3) LB_X10_digest lk_L_165 (by decide) dL_law_1463 rfl rfl (Nat.le_of_ble_eq_true rfl) (by omega) (by omega) 0 rfl ⟨rfl, rfl⟩ [.long r3.1, .long r1.1] rfl ?_
  obtain ⟨Z4, eZ4, hf⟩ := lt_some hf
  refine L_ws (ws1 := (wO G ad Z4.1 ts ao Z4.2.1 ++ wM G am Z4.2.2)) (by rw [eZ4]) ?_
  have hZ4 : ts.map (fun q => q.2) = Z4.1.2.2.2 := by rw [eZ4]; exact hZ2
  refine L_lcmp dL_law_1466 ?_
  refine L_if_eq 1472 dL_law_1467 (by decide) (fun c5 => ?_) (fun c5 => ?_)
  · replace hf := (if_pos c5).symm.trans hf
    refine L_widen (ce1 := ce + 16) (sl1 := sl + 256) (by omega) (by omega) ?_
    exact hb23 Z4 ts _ hZ4 hf
  · replace hf := (if_neg c5).symm.trans hf
    refine L_iconst 0 dL_law_1470 (by decide) ?_
    cases hf
def f_law_body (bk : S3 → Int32 → Option Unit) (xs : Nat → Int32) (L : Nat) (S : S3) (x4 : Int32) : Option Unit := if ((Int32.ofNat L) - (5)) < x4 then (some ()) else (ixo x4 L (lt (xs (Int32.toNatClampNeg x4)) fun a2 => if (a2 &&& (31)) = 0 then (f_law_c0 bk xs L S x4) else (if (a2 &&& (31)) = 1 then (f_law_c1 bk xs L S x4) else (if (a2 &&& (31)) = 2 then (f_law_c2 bk xs L S x4) else (if (a2 &&& (31)) = 3 then (f_law_c3 bk xs L S x4) else (if (a2 &&& (31)) = 4 then (f_law_c4 bk xs L S x4) else (if (a2 &&& (31)) = 5 then (f_law_c5 bk xs L S x4) else (if (a2 &&& (31)) = 6 then (f_law_c6 bk xs L S x4) else (if (a2 &&& (31)) = 7 then (f_law_c7 bk xs L S x4) else (if (a2 &&& (31)) = 8 then (f_law_c8 bk xs L S x4) else (if (a2 &&& (31)) = 9 then (f_law_c9 bk xs L S x4) else (if (a2 &&& (31)) = 10 then (f_law_c10 bk xs L S x4) else (if (a2 &&& (31)) = 11 then (f_law_c11 bk xs L S x4) else (if (a2 &&& (31)) = 12 then (f_law_c12 bk xs L S x4) else (if (a2 &&& (31)) = 13 then (f_law_c13 bk xs L S x4) else (if (a2 &&& (31)) = 14 then (f_law_c14 bk xs L S x4) else (if (a2 &&& (31)) = 15 then (f_law_c15 bk xs L S x4) else (if (a2 &&& (31)) = 16 then (f_law_c16 bk xs L S x4) else (if (a2 &&& (31)) = 17 then (f_law_c17 bk xs L S x4) else (if (a2 &&& (31)) = 18 then (f_law_c18 bk xs L S x4) else (if (a2 &&& (31)) = 19 then (f_law_c19 bk xs L S x4) else (if (a2 &&& (31)) = 20 then (f_law_c20 bk xs L S x4) else (if (a2 &&& (31)) = 21 then (f_law_c21 bk xs L S x4) else (if (a2 &&& (31)) = 22 then (f_law_c22 bk xs L S x4) else (bk S x4)))))))))))))))))))))))))
def f_law_23 (xs : Nat → Int32) (L : Nat) : Nat → S3 → Int32 → Option Unit
  | 0, _, _ => none
  | n + 1, S, x4 => f_law_body (fun S x4 => f_law_23 xs L n S (x4 + 5)) xs L S x4
set_option maxHeartbeats 8000000 in
set_option maxRecDepth 100000 in
theorem v_law_23 {l : Launch} {G : Gv} {b L : Nat} {xs : Nat → Int32} {ad am : Nat → Nat} {ao : Nat} : ∀ (n ce sl : Nat) (S : S3) (ts : List Tb) (x4 : Int32), ce + 16 * n ≤ 601024 → sl + 256 * n ≤ 7293034 → ts.map (fun q => q.2) = S.1.2.2.2 → f_law_23 xs L n S x4 = some () → VL l G b L xs ce sl (wO G ad S.1 ts ao S.2.1 ++ wM G am S.2.2) 23 [(0, .ref b), (1, .ref (ad 0)), (2, .ref (am 0)), (3, .ref ao), (4, .int x4)] [] := by
  intro n
  induction n with
  | zero =>
    intro ce sl S ts x4 hce hsl hts hf
    cases hf
  | succ n ih =>
    intro ce sl S ts x4 hce0 hsl0 hts hf
    have hce : ce + 16 ≤ 601024 := by omega
    have hsl : sl + 256 ≤ 7293034 := by omega
    rw [f_law_23] at hf
    have hb23 : ∀ (S : S3) (ts : List Tb) (x4 : Int32), ts.map (fun q => q.2) = S.1.2.2.2 → f_law_23 xs L n S (x4 + 5) = some () → VL l G b L xs (ce + 16) (sl + 256) (wO G ad S.1 ts ao S.2.1 ++ wM G am S.2.2) 1472 [(0, .ref b), (1, .ref (ad 0)), (2, .ref (am 0)), (3, .ref ao), (4, .int x4)] [] := by
      intro S ts x4 hts hf
      refine L_iinc 5 4 [(0, .ref b), (1, .ref (ad 0)), (2, .ref (am 0)), (3, .ref ao), (4, .int (x4 + 5))] [1, 2, 3, 4, 0] dL_law_1472 rfl (by decide) (by decide) rfl ?_
      refine L_goto 23 dL_law_1475 (by decide) ?_
      exact ih _ _ _ _ _ (by omega) (by omega) hts hf
    unfold f_law_body at hf
    refine L_iload 4 rfl dL_law_23 ?_
    refine L_aload_n 0 rfl dL_law_25 rfl ?_
    refine L_slen dL_law_26 ?_
    refine L_iconst 5 dL_law_27 (by decide) ?_
    refine L_isub dL_law_28 ?_
    refine L_icmp_gt 1478 dL_law_29 (by decide) (fun c1 => ?_) (fun c1 => ?_)
    · replace hf := (if_pos c1).symm.trans hf
      refine L_iconst 1 dL_law_1478 (by decide) ?_
      exact L_end (by omega) (by omega) dL_law_1479
    · replace hf := (if_neg c1).symm.trans hf
      refine L_aload_n 0 rfl dL_law_32 rfl ?_
      refine L_iload 4 rfl dL_law_33 ?_
      obtain ⟨hi, hf⟩ := ixo_some hf
      refine L_sld hi dL_law_35 ?_
      obtain ⟨a2, ea2, hf⟩ := lt_some hf
      refine L_st (st1 := [.int a2]) (by rw [ea2]) ?_
      refine L_bipush 31 dL_law_36 (by decide) ?_
      refine L_iand dL_law_38 ?_
      by_cases c3 : (a2 &&& (31)) = 0
      · replace hf := (if_pos c3).symm.trans hf
        refine L_tabIn 144 dL_law_39 (by rw [c3]; decide) (by rw [c3]; decide) (by rw [c3]; rfl) (by decide) ?_
        exact v_law_c0 hce hsl hts hb23 hf
      · replace hf := (if_neg c3).symm.trans hf
        by_cases c4 : (a2 &&& (31)) = 1
        · replace hf := (if_pos c4).symm.trans hf
          refine L_tabIn 200 dL_law_39 (by rw [c4]; decide) (by rw [c4]; decide) (by rw [c4]; rfl) (by decide) ?_
          exact v_law_c1 hce hsl hts hb23 hf
        · replace hf := (if_neg c4).symm.trans hf
          by_cases c5 : (a2 &&& (31)) = 2
          · replace hf := (if_pos c5).symm.trans hf
            refine L_tabIn 213 dL_law_39 (by rw [c5]; decide) (by rw [c5]; decide) (by rw [c5]; rfl) (by decide) ?_
            exact v_law_c2 hce hsl hts hb23 hf
          · replace hf := (if_neg c5).symm.trans hf
            by_cases c6 : (a2 &&& (31)) = 3
            · replace hf := (if_pos c6).symm.trans hf
              refine L_tabIn 257 dL_law_39 (by rw [c6]; decide) (by rw [c6]; decide) (by rw [c6]; rfl) (by decide) ?_
              exact v_law_c3 hce hsl hts hb23 hf
            · replace hf := (if_neg c6).symm.trans hf
              by_cases c7 : (a2 &&& (31)) = 4
              · replace hf := (if_pos c7).symm.trans hf
                refine L_tabIn 270 dL_law_39 (by rw [c7]; decide) (by rw [c7]; decide) (by rw [c7]; rfl) (by decide) ?_
                exact v_law_c4 hce hsl hts hb23 hf
              · replace hf := (if_neg c7).symm.trans hf
                by_cases c8 : (a2 &&& (31)) = 5
                · replace hf := (if_pos c8).symm.trans hf
                  refine L_tabIn 350 dL_law_39 (by rw [c8]; decide) (by rw [c8]; decide) (by rw [c8]; rfl) (by decide) ?_
                  exact v_law_c5 hce hsl hts hb23 hf
                · replace hf := (if_neg c8).symm.trans hf
                  by_cases c9 : (a2 &&& (31)) = 6
                  · replace hf := (if_pos c9).symm.trans hf
                    refine L_tabIn 430 dL_law_39 (by rw [c9]; decide) (by rw [c9]; decide) (by rw [c9]; rfl) (by decide) ?_
                    exact v_law_c6 hce hsl hts hb23 hf
                  · replace hf := (if_neg c9).symm.trans hf
                    by_cases c10 : (a2 &&& (31)) = 7
                    · replace hf := (if_pos c10).symm.trans hf
                      refine L_tabIn 486 dL_law_39 (by rw [c10]; decide) (by rw [c10]; decide) (by rw [c10]; rfl) (by decide) ?_
                      exact v_law_c7 hce hsl hts hb23 hf
                    · replace hf := (if_neg c10).symm.trans hf
                      by_cases c11 : (a2 &&& (31)) = 8
                      · replace hf := (if_pos c11).symm.trans hf
                        refine L_tabIn 566 dL_law_39 (by rw [c11]; decide) (by rw [c11]; decide) (by rw [c11]; rfl) (by decide) ?_
                        exact v_law_c8 hce hsl hts hb23 hf
                      · replace hf := (if_neg c11).symm.trans hf
                        by_cases c12 : (a2 &&& (31)) = 9
                        · replace hf := (if_pos c12).symm.trans hf
                          refine L_tabIn 634 dL_law_39 (by rw [c12]; decide) (by rw [c12]; decide) (by rw [c12]; rfl) (by decide) ?_
                          exact v_law_c9 hce hsl hts hb23 hf
                        · replace hf := (if_neg c12).symm.trans hf
                          by_cases c13 : (a2 &&& (31)) = 10
                          · replace hf := (if_pos c13).symm.trans hf
                            refine L_tabIn 702 dL_law_39 (by rw [c13]; decide) (by rw [c13]; decide) (by rw [c13]; rfl) (by decide) ?_
                            exact v_law_c10 hce hsl hts hb23 hf
                          · replace hf := (if_neg c13).symm.trans hf
                            by_cases c14 : (a2 &&& (31)) = 11
                            · replace hf := (if_pos c14).symm.trans hf
                              refine L_tabIn 758 dL_law_39 (by rw [c14]; decide) (by rw [c14]; decide) (by rw [c14]; rfl) (by decide) ?_
                              exact v_law_c11 hce hsl hts hb23 hf
                            · replace hf := (if_neg c14).symm.trans hf
                              by_cases c15 : (a2 &&& (31)) = 12
                              · replace hf := (if_pos c15).symm.trans hf
                                refine L_tabIn 838 dL_law_39 (by rw [c15]; decide) (by rw [c15]; decide) (by rw [c15]; rfl) (by decide) ?_
                                exact v_law_c12 hce hsl hts hb23 hf
                              · replace hf := (if_neg c15).symm.trans hf
                                by_cases c16 : (a2 &&& (31)) = 13
                                · replace hf := (if_pos c16).symm.trans hf
                                  refine L_tabIn 851 dL_law_39 (by rw [c16]; decide) (by rw [c16]; decide) (by rw [c16]; rfl) (by decide) ?_
                                  exact v_law_c13 hce hsl hts hb23 hf
                                · replace hf := (if_neg c16).symm.trans hf
                                  by_cases c17 : (a2 &&& (31)) = 14
                                  · replace hf := (if_pos c17).symm.trans hf
                                    refine L_tabIn 926 dL_law_39 (by rw [c17]; decide) (by rw [c17]; decide) (by rw [c17]; rfl) (by decide) ?_
                                    exact v_law_c14 hce hsl hts hb23 hf
                                  · replace hf := (if_neg c17).symm.trans hf
                                    by_cases c18 : (a2 &&& (31)) = 15
                                    · replace hf := (if_pos c18).symm.trans hf
                                      refine L_tabIn 1018 dL_law_39 (by rw [c18]; decide) (by rw [c18]; decide) (by rw [c18]; rfl) (by decide) ?_
                                      exact v_law_c15 hce hsl hts hb23 hf
                                    · replace hf := (if_neg c18).symm.trans hf
                                      by_cases c19 : (a2 &&& (31)) = 16
                                      · replace hf := (if_pos c19).symm.trans hf
                                        refine L_tabIn 1110 dL_law_39 (by rw [c19]; decide) (by rw [c19]; decide) (by rw [c19]; rfl) (by decide) ?_
                                        exact v_law_c16 hce hsl hts hb23 hf
                                      · replace hf := (if_neg c19).symm.trans hf
                                        by_cases c20 : (a2 &&& (31)) = 17
                                        · replace hf := (if_pos c20).symm.trans hf
                                          refine L_tabIn 1166 dL_law_39 (by rw [c20]; decide) (by rw [c20]; decide) (by rw [c20]; rfl) (by decide) ?_
                                          exact v_law_c17 hce hsl hts hb23 hf
                                        · replace hf := (if_neg c20).symm.trans hf
                                          by_cases c21 : (a2 &&& (31)) = 18
                                          · replace hf := (if_pos c21).symm.trans hf
                                            refine L_tabIn 1246 dL_law_39 (by rw [c21]; decide) (by rw [c21]; decide) (by rw [c21]; rfl) (by decide) ?_
                                            exact v_law_c18 hce hsl hts hb23 hf
                                          · replace hf := (if_neg c21).symm.trans hf
                                            by_cases c22 : (a2 &&& (31)) = 19
                                            · replace hf := (if_pos c22).symm.trans hf
                                              refine L_tabIn 1302 dL_law_39 (by rw [c22]; decide) (by rw [c22]; decide) (by rw [c22]; rfl) (by decide) ?_
                                              exact v_law_c19 hce hsl hts hb23 hf
                                            · replace hf := (if_neg c22).symm.trans hf
                                              by_cases c23 : (a2 &&& (31)) = 20
                                              · replace hf := (if_pos c23).symm.trans hf
                                                refine L_tabIn 1358 dL_law_39 (by rw [c23]; decide) (by rw [c23]; decide) (by rw [c23]; rfl) (by decide) ?_
                                                exact v_law_c20 hce hsl hts hb23 hf
                                              · replace hf := (if_neg c23).symm.trans hf
                                                by_cases c24 : (a2 &&& (31)) = 21
                                                · replace hf := (if_pos c24).symm.trans hf
                                                  refine L_tabIn 1414 dL_law_39 (by rw [c24]; decide) (by rw [c24]; decide) (by rw [c24]; rfl) (by decide) ?_
                                                  exact v_law_c21 hce hsl hts hb23 hf
                                                · replace hf := (if_neg c24).symm.trans hf
                                                  by_cases c25 : (a2 &&& (31)) = 22
                                                  · replace hf := (if_pos c25).symm.trans hf
                                                    refine L_tabIn 1458 dL_law_39 (by rw [c25]; decide) (by rw [c25]; decide) (by rw [c25]; rfl) (by decide) ?_
                                                    exact v_law_c22 hce hsl hts hb23 hf
                                                  · replace hf := (if_neg c25).symm.trans hf
                                                    refine L_tabOut 1472 dL_law_39 (sw_out23 c3 c4 c5 c6 c7 c8 c9 c10 c11 c12 c13 c14 c15 c16 c17 c18 c19 c20 c21 c22 c23 c24 c25) (by decide) ?_
                                                    refine L_widen (ce1 := ce + 16) (sl1 := sl + 256) (by omega) (by omega) ?_
                                                    exact hb23 S ts _ hts hf
