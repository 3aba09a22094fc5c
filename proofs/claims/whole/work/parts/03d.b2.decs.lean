theorem am_D_141 : (cd_X11_mutinyAfter).all (am_okE2 cX11_mutinyAfter 11 (some .long) "mutinyAfter") = true := by decide +kernel
theorem am_D_142 : (cd_X11_runsAfter).all (am_okE2 cX11_runsAfter 11 (some .long) "runsAfter") = true := by decide +kernel
theorem am_D_143 : (cd_X11_worstSet).all (am_okE2 cX11_worstSet 11 (some .int) "worstSet") = true := by decide +kernel
theorem am_D_144 : (cd_X11_order).all (am_okE2 cX11_order 11 (some .int) "order") = true := by decide +kernel
theorem am_D_145 : (cd_X11_orderOdds).all (am_okE2 cX11_orderOdds 11 (some .long) "orderOdds") = true := by decide +kernel
theorem am_D_146 : (cd_X11_friends).all (am_okE2 cX11_friends 11 (some .int) "friends") = true := by decide +kernel
theorem am_D_147 : (cd_X11_newTen).all (am_okE2 cX11_newTen 11 (some .int) "newTen") = true := by decide +kernel
theorem am_D_148 : (cd_X11_friendsNow).all (am_okE2 cX11_friendsNow 11 (some .int) "friendsNow") = true := by decide +kernel
theorem am_D_149 : (cd_X11_troubleOfHelmet).all (am_okE2 cX11_troubleOfHelmet 11 (some .int) "troubleOfHelmet") = true := by decide +kernel
theorem am_D_150 : (cd_X11_doubt).all (am_okE2 cX11_doubt 11 (some .long) "doubt") = true := by decide +kernel
theorem am_D_151 : (cd_X11_troubleOfDrawer).all (am_okE2 cX11_troubleOfDrawer 11 (some .int) "troubleOfDrawer") = true := by decide +kernel
theorem am_D_152 : (cd_X11_next).all (am_okE2 cX11_next 11 (some .long) "next") = true := by decide +kernel
theorem am_D_153 : (cd_X11_doubtIf).all (am_okE2 cX11_doubtIf 11 (some .long) "doubtIf") = true := by decide +kernel
theorem am_D_154 : (cd_X11_honest).all (am_okE2 cX11_honest 11 (some .long) "honest") = true := by decide +kernel
theorem am_D_155 : (cd_X11_troubleOfGone).all (am_okE2 cX11_troubleOfGone 11 (some .int) "troubleOfGone") = true := by decide +kernel
theorem am_D_156 : (cd_X11_gone).all (am_okE2 cX11_gone 11 (some .int) "gone") = true := by decide +kernel
theorem am_D_157 : (cd_X11_goneAt).all (am_okE2 cX11_goneAt 11 (some .int) "goneAt") = true := by decide +kernel
theorem am_D_158 : (cd_X11_goneOf).all (am_okE2 cX11_goneOf 11 (some .int) "goneOf") = true := by decide +kernel
theorem am_D_159 : (cd_X11_surelyGone).all (am_okE2 cX11_surelyGone 11 (some .int) "surelyGone") = true := by decide +kernel
theorem am_D_160 : (cd_X11_ask).all (am_okE2 cX11_ask 11 (some .int) "ask") = true := by decide +kernel
theorem am_D_161 : (cd_X11_askLeaves).all (am_okE2 cX11_askLeaves 11 (some .int) "askLeaves") = true := by decide +kernel
theorem am_D_162 : (cd_X11_troubleOfDread).all (am_okE2 cX11_troubleOfDread 11 (some .int) "troubleOfDread") = true := by decide +kernel
theorem am_D_163 : (cd_X11_gain).all (am_okE2 cX11_gain 11 (some .int) "gain") = true := by decide +kernel
theorem am_D_164 : (cd_X11_line).all (am_okE2 cX11_line 11 (some .int) "line") = true := by decide +kernel
theorem am_D_165 : (cd_X11_isRest).all (am_okE2 cX11_isRest 11 (some .boolean) "isRest") = true := by decide +kernel
theorem am_D_166 : (cd_X11_rests).all (am_okE2 cX11_rests 11 (some .int) "rests") = true := by decide +kernel
theorem am_D_167 : (cd_X11_rest).all (am_okE2 cX11_rest 11 (some .int) "rest") = true := by decide +kernel
theorem am_D_168 : (cd_X11_troubleOfSeed).all (am_okE2 cX11_troubleOfSeed 11 (some .int) "troubleOfSeed") = true := by decide +kernel
theorem am_D_169 : (cd_X11_troubleOfWars).all (am_okE2 cX11_troubleOfWars 11 (some .int) "troubleOfWars") = true := by decide +kernel
theorem am_D_170 : (cd_X11_wars).all (am_okE2 cX11_wars 11 (some .int) "wars") = true := by decide +kernel
theorem am_D_171 : (cd_X11_warsLeft).all (am_okE2 cX11_warsLeft 11 (some .int) "warsLeft") = true := by decide +kernel
theorem am_D_172 : (cd_X11_warsOf).all (am_okE2 cX11_warsOf 11 (some .int) "warsOf") = true := by decide +kernel
theorem am_D_173 : (cd_X11_lot).all (am_okE2 cX11_lot 11 (some .int) "lot") = true := by decide +kernel
theorem am_D_174 : (cd_X11_braces).all (am_okE2 cX11_braces 11 (some .boolean) "braces") = true := by decide +kernel
theorem am_D_175 : (cd_X11_move).all (am_okE2 cX11_move 11 (some .boolean) "move") = true := by decide +kernel
theorem am_D_176 : (cd_X11_seed).all (am_okE2 cX11_seed 11 (some .boolean) "seed") = true := by decide +kernel
theorem am_D_177 : (cd_X11_undo).all (am_okE2 cX11_undo 11 (some .boolean) "undo") = true := by decide +kernel
theorem am_D_178 : (cd_X11_image).all (am_okE2 cX11_image 11 (some .int) "image") = true := by decide +kernel
theorem am_D_179 : (cd_X11_back).all (am_okE2 cX11_back 11 (some .boolean) "back") = true := by decide +kernel
theorem am_D_180 : (cd_X11_size).all (am_okE2 cX11_size 11 (some .int) "size") = true := by decide +kernel
theorem am_D_181 : (cd_X11_trouble).all (am_okE2 cX11_trouble 11 (some .int) "trouble") = true := by decide +kernel
theorem am_D_182_0 : ((cd_X12_init.drop 0).take 60).all (am_okE2 cX12_init 12 (none) "<init>") = true := by decide +kernel
theorem am_D_182_1 : (cd_X12_init.drop 60).all (am_okE2 cX12_init 12 (none) "<init>") = true := by decide +kernel
theorem am_D_182 : (cd_X12_init).all (am_okE2 cX12_init 12 (none) "<init>") = true := am_all_app 60 am_D_182_0 (am_D_182_1)
theorem am_D_183 : (cd_X12_thrown).all (am_okE2 cX12_thrown 12 (some .int) "thrown") = true := by decide +kernel
theorem am_D_184 : (cd_X12_good).all (am_okE2 cX12_good 12 (none) "good") = true := by decide +kernel
theorem am_D_185 : (cd_X12_no).all (am_okE2 cX12_no 12 (some .int) "no") = true := by decide +kernel
theorem am_D_186 : (cd_X12_isNot).all (am_okE2 cX12_isNot 12 (some .boolean) "isNot") = true := by decide +kernel
theorem am_D_187 : (cd_X12_in).all (am_okE2 cX12_in 12 (some .boolean) "in") = true := by decide +kernel
theorem am_D_188 : (cd_X12_hasBit).all (am_okE2 cX12_hasBit 12 (some .boolean) "hasBit") = true := by decide +kernel
theorem am_D_189 : (cd_X12_ones).all (am_okE2 cX12_ones 12 (some .int) "ones") = true := by decide +kernel
theorem am_D_190 : (cd_X12_copy).all (am_okE2 cX12_copy 12 (none) "copy") = true := by decide +kernel
theorem am_D_191 : (cd_X12_lowest).all (am_okE2 cX12_lowest 12 (some .long) "lowest") = true := by decide +kernel
theorem am_D_192_0 : ((cd_X12_feed.drop 0).take 60).all (am_okE2 cX12_feed 12 (some .int) "feed") = true := by decide +kernel
theorem am_D_192_1 : (cd_X12_feed.drop 60).all (am_okE2 cX12_feed 12 (some .int) "feed") = true := by decide +kernel
theorem am_D_192 : (cd_X12_feed).all (am_okE2 cX12_feed 12 (some .int) "feed") = true := am_all_app 60 am_D_192_0 (am_D_192_1)
theorem am_D_193 : (cd_X12_look).all (am_okE2 cX12_look 12 (some .int) "look") = true := by decide +kernel
theorem am_D_194 : (cd_X12_isSmall).all (am_okE2 cX12_isSmall 12 (some .boolean) "isSmall") = true := by decide +kernel
theorem am_D_195 : (cd_X12_isDigit).all (am_okE2 cX12_isDigit 12 (some .boolean) "isDigit") = true := by decide +kernel
theorem am_D_196_0 : ((cd_X12_goOn.drop 0).take 60).all (am_okE2 cX12_goOn 12 (none) "goOn") = true := by decide +kernel
theorem am_D_196_1 : ((cd_X12_goOn.drop 60).take 60).all (am_okE2 cX12_goOn 12 (none) "goOn") = true := by decide +kernel
theorem am_D_196_2 : (cd_X12_goOn.drop 120).all (am_okE2 cX12_goOn 12 (none) "goOn") = true := by decide +kernel
theorem am_D_196 : (cd_X12_goOn).all (am_okE2 cX12_goOn 12 (none) "goOn") = true := am_all_app 60 am_D_196_0 (am_all_app 60 am_D_196_1 (am_dd 60 60 (am_D_196_2)))
theorem am_D_197 : (cd_X12_bad).all (am_okE2 cX12_bad 12 (none) "bad") = true := by decide +kernel
theorem am_D_198 : (cd_X12_isWord).all (am_okE2 cX12_isWord 12 (some .boolean) "isWord") = true := by decide +kernel
theorem am_D_199 : (cd_X12_takesWord).all (am_okE2 cX12_takesWord 12 (some .boolean) "takesWord") = true := by decide +kernel
theorem am_D_200 : (cd_X12_must).all (am_okE2 cX12_must 12 (none) "must") = true := by decide +kernel
theorem am_D_201 : (cd_X12_mustName).all (am_okE2 cX12_mustName 12 (none) "mustName") = true := by decide +kernel
theorem am_D_202_0 : ((cd_X12_find.drop 0).take 60).all (am_okE2 cX12_find 12 (some .int) "find") = true := by decide +kernel
theorem am_D_202_1 : (cd_X12_find.drop 60).all (am_okE2 cX12_find 12 (some .int) "find") = true := by decide +kernel
theorem am_D_202 : (cd_X12_find).all (am_okE2 cX12_find 12 (some .int) "find") = true := am_all_app 60 am_D_202_0 (am_D_202_1)
theorem am_D_203 : (cd_X12_newName).all (am_okE2 cX12_newName 12 (none) "newName") = true := by decide +kernel
theorem am_D_204 : (cd_X12_named).all (am_okE2 cX12_named 12 (some .int) "named") = true := by decide +kernel
theorem am_D_205 : (cd_X12_manHere).all (am_okE2 cX12_manHere 12 (some .int) "manHere") = true := by decide +kernel
theorem am_D_206 : (cd_X12_manPassed).all (am_okE2 cX12_manPassed 12 (some .int) "manPassed") = true := by decide +kernel
theorem am_D_207 : (cd_X12_number).all (am_okE2 cX12_number 12 (some .int) "number") = true := by decide +kernel
theorem am_D_208 : (cd_X12_after).all (am_okE2 cX12_after 12 (some .int) "after") = true := by decide +kernel
theorem am_D_209 : (cd_X12_legionLine).all (am_okE2 cX12_legionLine 12 (none) "legionLine") = true := by decide +kernel
theorem am_D_210 : (cd_X12_begins).all (am_okE2 cX12_begins 12 (some .boolean) "begins") = true := by decide +kernel
theorem am_D_211 : (cd_X12_tenLine).all (am_okE2 cX12_tenLine 12 (none) "tenLine") = true := by decide +kernel
theorem am_D_212_0 : ((cd_X12_manLine.drop 0).take 60).all (am_okE2 cX12_manLine 12 (none) "manLine") = true := by decide +kernel
theorem am_D_212_1 : (cd_X12_manLine.drop 60).all (am_okE2 cX12_manLine 12 (none) "manLine") = true := by decide +kernel
theorem am_D_212 : (cd_X12_manLine).all (am_okE2 cX12_manLine 12 (none) "manLine") = true := am_all_app 60 am_D_212_0 (am_D_212_1)
theorem am_D_213_0 : ((cd_X12_friendLine.drop 0).take 60).all (am_okE2 cX12_friendLine 12 (none) "friendLine") = true := by decide +kernel
theorem am_D_213_1 : (cd_X12_friendLine.drop 60).all (am_okE2 cX12_friendLine 12 (none) "friendLine") = true := by decide +kernel
theorem am_D_213 : (cd_X12_friendLine).all (am_okE2 cX12_friendLine 12 (none) "friendLine") = true := am_all_app 60 am_D_213_0 (am_D_213_1)
theorem am_D_214 : (cd_X12_helmetLine).all (am_okE2 cX12_helmetLine 12 (none) "helmetLine") = true := by decide +kernel
theorem am_D_215 : (cd_X12_drewBy).all (am_okE2 cX12_drewBy 12 (some .int) "drewBy") = true := by decide +kernel
theorem am_D_216_0 : ((cd_X12_drewLine.drop 0).take 60).all (am_okE2 cX12_drewLine 12 (none) "drewLine") = true := by decide +kernel
theorem am_D_216_1 : ((cd_X12_drewLine.drop 60).take 60).all (am_okE2 cX12_drewLine 12 (none) "drewLine") = true := by decide +kernel
theorem am_D_216_2 : (cd_X12_drewLine.drop 120).all (am_okE2 cX12_drewLine 12 (none) "drewLine") = true := by decide +kernel
theorem am_D_216 : (cd_X12_drewLine).all (am_okE2 cX12_drewLine 12 (none) "drewLine") = true := am_all_app 60 am_D_216_0 (am_all_app 60 am_D_216_1 (am_dd 60 60 (am_D_216_2)))
theorem am_D_217 : (cd_X12_goneLine).all (am_okE2 cX12_goneLine 12 (none) "goneLine") = true := by decide +kernel
theorem am_D_218_0 : ((cd_X12_amongLine.drop 0).take 60).all (am_okE2 cX12_amongLine 12 (none) "amongLine") = true := by decide +kernel
theorem am_D_218_1 : (cd_X12_amongLine.drop 60).all (am_okE2 cX12_amongLine 12 (none) "amongLine") = true := by decide +kernel
theorem am_D_218 : (cd_X12_amongLine).all (am_okE2 cX12_amongLine 12 (none) "amongLine") = true := am_all_app 60 am_D_218_0 (am_D_218_1)
theorem am_D_219_0 : ((cd_X12_readLine.drop 0).take 60).all (am_okE2 cX12_readLine 12 (none) "readLine") = true := by decide +kernel
theorem am_D_219_1 : (cd_X12_readLine.drop 60).all (am_okE2 cX12_readLine 12 (none) "readLine") = true := by decide +kernel
theorem am_D_219 : (cd_X12_readLine).all (am_okE2 cX12_readLine 12 (none) "readLine") = true := am_all_app 60 am_D_219_0 (am_D_219_1)
theorem am_D_220 : (cd_X12_allMen).all (am_okE2 cX12_allMen 12 (some .int) "allMen") = true := by decide +kernel
theorem am_D_221_0 : ((cd_X12_legion.drop 0).take 60).all (am_okE2 cX12_legion 12 (some .int) "legion") = true := by decide +kernel
theorem am_D_221_1 : ((cd_X12_legion.drop 60).take 60).all (am_okE2 cX12_legion 12 (some .int) "legion") = true := by decide +kernel
theorem am_D_221_2 : (cd_X12_legion.drop 120).all (am_okE2 cX12_legion 12 (some .int) "legion") = true := by decide +kernel
theorem am_D_221 : (cd_X12_legion).all (am_okE2 cX12_legion 12 (some .int) "legion") = true := am_all_app 60 am_D_221_0 (am_all_app 60 am_D_221_1 (am_dd 60 60 (am_D_221_2)))
