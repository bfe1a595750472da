/-! ===== the tables' words, by their places ===== -/
theorem Y_J7_fill_53178 : av_Ys yJ7_fill_53178 cJ7_fill_53178 4 none 2 := ⟨⟨wG_of 72 (by decide +kernel) rfl, wG_of 42 (by decide +kernel) rfl, by decide +kernel, by decide +kernel, by decide⟩, wG_of 71 (by decide +kernel) rfl⟩
theorem Y_X5_createServers : av_Yv yX5_createServers cX5_createServers 3 (some .int) 1 := ⟨⟨wG_of 187 (by decide +kernel) rfl, wG_of 40 (by decide +kernel) rfl, by decide +kernel, by decide +kernel, by decide⟩, wG_of 185 (by decide +kernel) rfl, wG_of 186 (by decide +kernel) rfl⟩
theorem Y_X4_countUsers : av_Yv yX4_countUsers cX4_countUsers 5 (some .int) 1 := ⟨⟨wG_of 191 (by decide +kernel) rfl, wG_of 41 (by decide +kernel) rfl, by decide +kernel, by decide +kernel, by decide⟩, wG_of 189 (by decide +kernel) rfl, wG_of 190 (by decide +kernel) rfl⟩
theorem Y_X5_hasBit : av_Ys yX5_hasBit cX5_hasBit 2 (some .boolean) 2 := ⟨⟨wG_of 194 (by decide +kernel) rfl, wG_of 40 (by decide +kernel) rfl, by decide +kernel, by decide +kernel, by decide⟩, wG_of 193 (by decide +kernel) rfl⟩
theorem Y_X4_hasUser : av_Yv yX4_hasUser cX4_hasUser 3 (some .boolean) 2 := ⟨⟨wG_of 198 (by decide +kernel) rfl, wG_of 41 (by decide +kernel) rfl, by decide +kernel, by decide +kernel, by decide⟩, wG_of 196 (by decide +kernel) rfl, wG_of 197 (by decide +kernel) rfl⟩
theorem Y_X4_userCell : av_Ys yX4_userCell cX4_userCell 2 (some .int) 2 := ⟨⟨wG_of 201 (by decide +kernel) rfl, wG_of 41 (by decide +kernel) rfl, by decide +kernel, by decide +kernel, by decide⟩, wG_of 200 (by decide +kernel) rfl⟩
theorem Y_X0_keep : av_Yv yX0_keep cX0_keep 3 none 1 := ⟨⟨wG_of 205 (by decide +kernel) rfl, wG_of 43 (by decide +kernel) rfl, by decide +kernel, by decide +kernel, by decide⟩, wG_of 203 (by decide +kernel) rfl, wG_of 204 (by decide +kernel) rfl⟩
theorem Y_X4_copyFrom : av_Yv yX4_copyFrom cX4_copyFrom 2 none 1 := ⟨⟨wG_of 209 (by decide +kernel) rfl, wG_of 41 (by decide +kernel) rfl, by decide +kernel, by decide +kernel, by decide⟩, wG_of 207 (by decide +kernel) rfl, wG_of 208 (by decide +kernel) rfl⟩
theorem Y_X4_reset : av_Yv yX4_reset cX4_reset 2 none 1 := ⟨⟨wG_of 219 (by decide +kernel) rfl, wG_of 41 (by decide +kernel) rfl, by decide +kernel, by decide +kernel, by decide⟩, wG_of 217 (by decide +kernel) rfl, wG_of 218 (by decide +kernel) rfl⟩
theorem Y_X5_connect : av_Yv yX5_connect cX5_connect 4 (some .int) 2 := ⟨⟨wG_of 223 (by decide +kernel) rfl, wG_of 40 (by decide +kernel) rfl, by decide +kernel, by decide +kernel, by decide⟩, wG_of 221 (by decide +kernel) rfl, wG_of 222 (by decide +kernel) rfl⟩
theorem Y_X4_hasServers : av_Yv yX4_hasServers cX4_hasServers 3 (some .boolean) 2 := ⟨⟨wG_of 227 (by decide +kernel) rfl, wG_of 41 (by decide +kernel) rfl, by decide +kernel, by decide +kernel, by decide⟩, wG_of 225 (by decide +kernel) rfl, wG_of 226 (by decide +kernel) rfl⟩
theorem Y_X4_hasServer : av_Yv yX4_hasServer cX4_hasServer 2 (some .boolean) 1 := ⟨⟨wG_of 231 (by decide +kernel) rfl, wG_of 41 (by decide +kernel) rfl, by decide +kernel, by decide +kernel, by decide⟩, wG_of 229 (by decide +kernel) rfl, wG_of 230 (by decide +kernel) rfl⟩
theorem Y_X4_shareNetwork : av_Yv yX4_shareNetwork cX4_shareNetwork 3 (some .boolean) 2 := ⟨⟨wG_of 235 (by decide +kernel) rfl, wG_of 41 (by decide +kernel) rfl, by decide +kernel, by decide +kernel, by decide⟩, wG_of 233 (by decide +kernel) rfl, wG_of 234 (by decide +kernel) rfl⟩
theorem Y_X4_networkOf : av_Yv yX4_networkOf cX4_networkOf 4 (some .int) 1 := ⟨⟨wG_of 239 (by decide +kernel) rfl, wG_of 41 (by decide +kernel) rfl, by decide +kernel, by decide +kernel, by decide⟩, wG_of 237 (by decide +kernel) rfl, wG_of 238 (by decide +kernel) rfl⟩
theorem Y_X4_withNeighbours : av_Yv yX4_withNeighbours cX4_withNeighbours 4 (some .int) 1 := ⟨⟨wG_of 243 (by decide +kernel) rfl, wG_of 41 (by decide +kernel) rfl, by decide +kernel, by decide +kernel, by decide⟩, wG_of 241 (by decide +kernel) rfl, wG_of 242 (by decide +kernel) rfl⟩
theorem Y_X1_countKills : av_Ys yX1_countKills cX1_countKills 9 (some .int) 3 := ⟨⟨wG_of 246 (by decide +kernel) rfl, wG_of 49 (by decide +kernel) rfl, by decide +kernel, by decide +kernel, by decide⟩, wG_of 245 (by decide +kernel) rfl⟩
theorem Y_X4_timeOfNick : av_Yv yX4_timeOfNick cX4_timeOfNick 4 (some .int) 2 := ⟨⟨wG_of 251 (by decide +kernel) rfl, wG_of 41 (by decide +kernel) rfl, by decide +kernel, by decide +kernel, by decide⟩, wG_of 249 (by decide +kernel) rfl, wG_of 250 (by decide +kernel) rfl⟩
theorem Y_X4_homeIn : av_Yv yX4_homeIn cX4_homeIn 4 (some .int) 2 := ⟨⟨wG_of 255 (by decide +kernel) rfl, wG_of 41 (by decide +kernel) rfl, by decide +kernel, by decide +kernel, by decide⟩, wG_of 253 (by decide +kernel) rfl, wG_of 254 (by decide +kernel) rfl⟩
theorem Y_X4_timeOfUser : av_Yv yX4_timeOfUser cX4_timeOfUser 3 (some .int) 2 := ⟨⟨wG_of 259 (by decide +kernel) rfl, wG_of 41 (by decide +kernel) rfl, by decide +kernel, by decide +kernel, by decide⟩, wG_of 257 (by decide +kernel) rfl, wG_of 258 (by decide +kernel) rfl⟩
theorem Y_X1_survivor : av_Ys yX1_survivor cX1_survivor 2 (some .int) 2 := ⟨⟨wG_of 262 (by decide +kernel) rfl, wG_of 49 (by decide +kernel) rfl, by decide +kernel, by decide +kernel, by decide⟩, wG_of 261 (by decide +kernel) rfl⟩
theorem Y_X1_settleNicks : av_Ys yX1_settleNicks cX1_settleNicks 8 none 3 := ⟨⟨wG_of 269 (by decide +kernel) rfl, wG_of 49 (by decide +kernel) rfl, by decide +kernel, by decide +kernel, by decide⟩, wG_of 268 (by decide +kernel) rfl⟩
theorem Y_X1_settleCollision : av_Ys yX1_settleCollision cX1_settleCollision 7 none 4 := ⟨⟨wG_of 273 (by decide +kernel) rfl, wG_of 49 (by decide +kernel) rfl, by decide +kernel, by decide +kernel, by decide⟩, wG_of 272 (by decide +kernel) rfl⟩
theorem Y_X4_removeUser : av_Yv yX4_removeUser cX4_removeUser 4 none 2 := ⟨⟨wG_of 278 (by decide +kernel) rfl, wG_of 41 (by decide +kernel) rfl, by decide +kernel, by decide +kernel, by decide⟩, wG_of 276 (by decide +kernel) rfl, wG_of 277 (by decide +kernel) rfl⟩
theorem Y_X4_removeMember : av_Yv yX4_removeMember cX4_removeMember 5 none 3 := ⟨⟨wG_of 282 (by decide +kernel) rfl, wG_of 41 (by decide +kernel) rfl, by decide +kernel, by decide +kernel, by decide⟩, wG_of 280 (by decide +kernel) rfl, wG_of 281 (by decide +kernel) rfl⟩
theorem Y_X4_channelCell : av_Ys yX4_channelCell cX4_channelCell 2 (some .int) 2 := ⟨⟨wG_of 285 (by decide +kernel) rfl, wG_of 41 (by decide +kernel) rfl, by decide +kernel, by decide +kernel, by decide⟩, wG_of 284 (by decide +kernel) rfl⟩
theorem Y_X5_withBit : av_Ys yX5_withBit cX5_withBit 3 (some .int) 3 := ⟨⟨wG_of 288 (by decide +kernel) rfl, wG_of 40 (by decide +kernel) rfl, by decide +kernel, by decide +kernel, by decide⟩, wG_of 287 (by decide +kernel) rfl⟩
theorem Y_X1_settleChannels : av_Ys yX1_settleChannels cX1_settleChannels 6 none 3 := ⟨⟨wG_of 291 (by decide +kernel) rfl, wG_of 49 (by decide +kernel) rfl, by decide +kernel, by decide +kernel, by decide⟩, wG_of 290 (by decide +kernel) rfl⟩
theorem Y_X4_hasChannel : av_Yv yX4_hasChannel cX4_hasChannel 3 (some .boolean) 2 := ⟨⟨wG_of 295 (by decide +kernel) rfl, wG_of 41 (by decide +kernel) rfl, by decide +kernel, by decide +kernel, by decide⟩, wG_of 293 (by decide +kernel) rfl, wG_of 294 (by decide +kernel) rfl⟩
theorem Y_X4_membersIn : av_Yv yX4_membersIn cX4_membersIn 3 (some .int) 2 := ⟨⟨wG_of 299 (by decide +kernel) rfl, wG_of 41 (by decide +kernel) rfl, by decide +kernel, by decide +kernel, by decide⟩, wG_of 297 (by decide +kernel) rfl, wG_of 298 (by decide +kernel) rfl⟩
theorem Y_X4_unionOf : av_Ys yX4_unionOf cX4_unionOf 5 (some .int) 3 := ⟨⟨wG_of 302 (by decide +kernel) rfl, wG_of 41 (by decide +kernel) rfl, by decide +kernel, by decide +kernel, by decide⟩, wG_of 301 (by decide +kernel) rfl⟩
theorem Y_X1_uniteChannels : av_Ys yX1_uniteChannels cX1_uniteChannels 7 none 4 := ⟨⟨wG_of 305 (by decide +kernel) rfl, wG_of 49 (by decide +kernel) rfl, by decide +kernel, by decide +kernel, by decide⟩, wG_of 304 (by decide +kernel) rfl⟩
theorem Y_X4_timeOfChannel : av_Yv yX4_timeOfChannel cX4_timeOfChannel 3 (some .int) 2 := ⟨⟨wG_of 309 (by decide +kernel) rfl, wG_of 41 (by decide +kernel) rfl, by decide +kernel, by decide +kernel, by decide⟩, wG_of 307 (by decide +kernel) rfl, wG_of 308 (by decide +kernel) rfl⟩
theorem Y_X1_overruleChannel : av_Ys yX1_overruleChannel cX1_overruleChannel 5 none 4 := ⟨⟨wG_of 312 (by decide +kernel) rfl, wG_of 49 (by decide +kernel) rfl, by decide +kernel, by decide +kernel, by decide⟩, wG_of 311 (by decide +kernel) rfl⟩
theorem Y_X4_operatorsIn : av_Yv yX4_operatorsIn cX4_operatorsIn 3 (some .int) 2 := ⟨⟨wG_of 316 (by decide +kernel) rfl, wG_of 41 (by decide +kernel) rfl, by decide +kernel, by decide +kernel, by decide⟩, wG_of 314 (by decide +kernel) rfl, wG_of 315 (by decide +kernel) rfl⟩
theorem Y_J6_bitCount_0f7a4 : av_Ys yJ6_bitCount_0f7a4 cJ6_bitCount_0f7a4 1 (some .int) 1 := ⟨⟨wG_of 319 (by decide +kernel) rfl, wG_of 50 (by decide +kernel) rfl, by decide +kernel, by decide +kernel, by decide⟩, wG_of 318 (by decide +kernel) rfl⟩
theorem Y_X4_modesOfChannel : av_Yv yX4_modesOfChannel cX4_modesOfChannel 3 (some .int) 2 := ⟨⟨wG_of 326 (by decide +kernel) rfl, wG_of 41 (by decide +kernel) rfl, by decide +kernel, by decide +kernel, by decide⟩, wG_of 324 (by decide +kernel) rfl, wG_of 325 (by decide +kernel) rfl⟩
theorem Y_X4_setOperators : av_Yv yX4_setOperators cX4_setOperators 6 none 3 := ⟨⟨wG_of 330 (by decide +kernel) rfl, wG_of 41 (by decide +kernel) rfl, by decide +kernel, by decide +kernel, by decide⟩, wG_of 328 (by decide +kernel) rfl, wG_of 329 (by decide +kernel) rfl⟩
theorem Y_X1_tellOfChannel : av_Ys yX1_tellOfChannel cX1_tellOfChannel 4 none 4 := ⟨⟨wG_of 333 (by decide +kernel) rfl, wG_of 49 (by decide +kernel) rfl, by decide +kernel, by decide +kernel, by decide⟩, wG_of 332 (by decide +kernel) rfl⟩
theorem Y_X4_describeChannel : av_Yv yX4_describeChannel cX4_describeChannel 6 none 4 := ⟨⟨wG_of 337 (by decide +kernel) rfl, wG_of 41 (by decide +kernel) rfl, by decide +kernel, by decide +kernel, by decide⟩, wG_of 335 (by decide +kernel) rfl, wG_of 336 (by decide +kernel) rfl⟩
theorem Y_X4_link : av_Yv yX4_link cX4_link 3 none 2 := ⟨⟨wG_of 341 (by decide +kernel) rfl, wG_of 41 (by decide +kernel) rfl, by decide +kernel, by decide +kernel, by decide⟩, wG_of 339 (by decide +kernel) rfl, wG_of 340 (by decide +kernel) rfl⟩
theorem Y_X5_disconnect : av_Yv yX5_disconnect cX5_disconnect 3 (some .int) 2 := ⟨⟨wG_of 345 (by decide +kernel) rfl, wG_of 40 (by decide +kernel) rfl, by decide +kernel, by decide +kernel, by decide⟩, wG_of 343 (by decide +kernel) rfl, wG_of 344 (by decide +kernel) rfl⟩
theorem Y_X4_areLinked : av_Yv yX4_areLinked cX4_areLinked 3 (some .boolean) 2 := ⟨⟨wG_of 349 (by decide +kernel) rfl, wG_of 41 (by decide +kernel) rfl, by decide +kernel, by decide +kernel, by decide⟩, wG_of 347 (by decide +kernel) rfl, wG_of 348 (by decide +kernel) rfl⟩
theorem Y_X4_unlink : av_Yv yX4_unlink cX4_unlink 3 none 2 := ⟨⟨wG_of 353 (by decide +kernel) rfl, wG_of 41 (by decide +kernel) rfl, by decide +kernel, by decide +kernel, by decide⟩, wG_of 351 (by decide +kernel) rfl, wG_of 352 (by decide +kernel) rfl⟩
theorem Y_X5_advance : av_Yv yX5_advance cX5_advance 2 (some .int) 1 := ⟨⟨wG_of 359 (by decide +kernel) rfl, wG_of 40 (by decide +kernel) rfl, by decide +kernel, by decide +kernel, by decide⟩, wG_of 357 (by decide +kernel) rfl, wG_of 358 (by decide +kernel) rfl⟩
theorem Y_X5_time : av_Yv yX5_time cX5_time 1 (some .int) 0 := ⟨⟨wG_of 363 (by decide +kernel) rfl, wG_of 40 (by decide +kernel) rfl, by decide +kernel, by decide +kernel, by decide⟩, wG_of 361 (by decide +kernel) rfl, wG_of 362 (by decide +kernel) rfl⟩
theorem Y_X5_hops : av_Yv yX5_hops cX5_hops 5 (some .int) 2 := ⟨⟨wG_of 367 (by decide +kernel) rfl, wG_of 40 (by decide +kernel) rfl, by decide +kernel, by decide +kernel, by decide⟩, wG_of 365 (by decide +kernel) rfl, wG_of 366 (by decide +kernel) rfl⟩
theorem Y_X5_signOn : av_Yv yX5_signOn cX5_signOn 4 (some .int) 2 := ⟨⟨wG_of 373 (by decide +kernel) rfl, wG_of 40 (by decide +kernel) rfl, by decide +kernel, by decide +kernel, by decide⟩, wG_of 371 (by decide +kernel) rfl, wG_of 372 (by decide +kernel) rfl⟩
theorem Y_X5_isNick : av_Ys yX5_isNick cX5_isNick 1 (some .boolean) 1 := ⟨⟨wG_of 377 (by decide +kernel) rfl, wG_of 40 (by decide +kernel) rfl, by decide +kernel, by decide +kernel, by decide⟩, wG_of 376 (by decide +kernel) rfl⟩
theorem Y_X4_addUser : av_Yv yX4_addUser cX4_addUser 3 none 2 := ⟨⟨wG_of 382 (by decide +kernel) rfl, wG_of 41 (by decide +kernel) rfl, by decide +kernel, by decide +kernel, by decide⟩, wG_of 380 (by decide +kernel) rfl, wG_of 381 (by decide +kernel) rfl⟩
theorem Y_X5_signOff : av_Yv yX5_signOff cX5_signOff 4 (some .int) 2 := ⟨⟨wG_of 386 (by decide +kernel) rfl, wG_of 40 (by decide +kernel) rfl, by decide +kernel, by decide +kernel, by decide⟩, wG_of 384 (by decide +kernel) rfl, wG_of 385 (by decide +kernel) rfl⟩
theorem Y_X4_countChannelsOf : av_Yv yX4_countChannelsOf cX4_countChannelsOf 5 (some .int) 2 := ⟨⟨wG_of 391 (by decide +kernel) rfl, wG_of 41 (by decide +kernel) rfl, by decide +kernel, by decide +kernel, by decide⟩, wG_of 389 (by decide +kernel) rfl, wG_of 390 (by decide +kernel) rfl⟩
theorem Y_X4_isMember : av_Yv yX4_isMember cX4_isMember 4 (some .boolean) 3 := ⟨⟨wG_of 395 (by decide +kernel) rfl, wG_of 41 (by decide +kernel) rfl, by decide +kernel, by decide +kernel, by decide⟩, wG_of 393 (by decide +kernel) rfl, wG_of 394 (by decide +kernel) rfl⟩
theorem Y_X5_changeNick : av_Yv yX5_changeNick cX5_changeNick 5 (some .int) 3 := ⟨⟨wG_of 400 (by decide +kernel) rfl, wG_of 40 (by decide +kernel) rfl, by decide +kernel, by decide +kernel, by decide⟩, wG_of 398 (by decide +kernel) rfl, wG_of 399 (by decide +kernel) rfl⟩
theorem Y_X4_renameUser : av_Yv yX4_renameUser cX4_renameUser 5 none 3 := ⟨⟨wG_of 405 (by decide +kernel) rfl, wG_of 41 (by decide +kernel) rfl, by decide +kernel, by decide +kernel, by decide⟩, wG_of 403 (by decide +kernel) rfl, wG_of 404 (by decide +kernel) rfl⟩
theorem Y_X4_addMember : av_Yv yX4_addMember cX4_addMember 5 none 3 := ⟨⟨wG_of 410 (by decide +kernel) rfl, wG_of 41 (by decide +kernel) rfl, by decide +kernel, by decide +kernel, by decide⟩, wG_of 408 (by decide +kernel) rfl, wG_of 409 (by decide +kernel) rfl⟩
theorem Y_X4_isOperator : av_Yv yX4_isOperator cX4_isOperator 4 (some .boolean) 3 := ⟨⟨wG_of 414 (by decide +kernel) rfl, wG_of 41 (by decide +kernel) rfl, by decide +kernel, by decide +kernel, by decide⟩, wG_of 412 (by decide +kernel) rfl, wG_of 413 (by decide +kernel) rfl⟩
theorem Y_X4_addOperator : av_Yv yX4_addOperator cX4_addOperator 5 none 3 := ⟨⟨wG_of 418 (by decide +kernel) rfl, wG_of 41 (by decide +kernel) rfl, by decide +kernel, by decide +kernel, by decide⟩, wG_of 416 (by decide +kernel) rfl, wG_of 417 (by decide +kernel) rfl⟩
theorem Y_X5_homeServer : av_Yv yX5_homeServer cX5_homeServer 4 (some .int) 2 := ⟨⟨wG_of 423 (by decide +kernel) rfl, wG_of 40 (by decide +kernel) rfl, by decide +kernel, by decide +kernel, by decide⟩, wG_of 421 (by decide +kernel) rfl, wG_of 422 (by decide +kernel) rfl⟩
theorem Y_X5_userTimestamp : av_Yv yX5_userTimestamp cX5_userTimestamp 4 (some .int) 2 := ⟨⟨wG_of 427 (by decide +kernel) rfl, wG_of 40 (by decide +kernel) rfl, by decide +kernel, by decide +kernel, by decide⟩, wG_of 425 (by decide +kernel) rfl, wG_of 426 (by decide +kernel) rfl⟩
theorem Y_X5_visibleUsers : av_Yv yX5_visibleUsers cX5_visibleUsers 2 (some .int) 1 := ⟨⟨wG_of 432 (by decide +kernel) rfl, wG_of 40 (by decide +kernel) rfl, by decide +kernel, by decide +kernel, by decide⟩, wG_of 430 (by decide +kernel) rfl, wG_of 431 (by decide +kernel) rfl⟩
theorem Y_X4_nicksIn : av_Yv yX4_nicksIn cX4_nicksIn 4 (some .int) 1 := ⟨⟨wG_of 436 (by decide +kernel) rfl, wG_of 41 (by decide +kernel) rfl, by decide +kernel, by decide +kernel, by decide⟩, wG_of 434 (by decide +kernel) rfl, wG_of 435 (by decide +kernel) rfl⟩
theorem Y_X5_join : av_Yv yX5_join cX5_join 5 (some .int) 3 := ⟨⟨wG_of 440 (by decide +kernel) rfl, wG_of 40 (by decide +kernel) rfl, by decide +kernel, by decide +kernel, by decide⟩, wG_of 438 (by decide +kernel) rfl, wG_of 439 (by decide +kernel) rfl⟩
theorem Y_X5_isChannel : av_Ys yX5_isChannel cX5_isChannel 1 (some .boolean) 1 := ⟨⟨wG_of 443 (by decide +kernel) rfl, wG_of 40 (by decide +kernel) rfl, by decide +kernel, by decide +kernel, by decide⟩, wG_of 442 (by decide +kernel) rfl⟩
theorem Y_X5_part : av_Yv yX5_part cX5_part 4 (some .int) 3 := ⟨⟨wG_of 453 (by decide +kernel) rfl, wG_of 40 (by decide +kernel) rfl, by decide +kernel, by decide +kernel, by decide⟩, wG_of 451 (by decide +kernel) rfl, wG_of 452 (by decide +kernel) rfl⟩
theorem Y_X5_leaveChannel : av_Yv yX5_leaveChannel cX5_leaveChannel 4 (some .int) 3 := ⟨⟨wG_of 457 (by decide +kernel) rfl, wG_of 40 (by decide +kernel) rfl, by decide +kernel, by decide +kernel, by decide⟩, wG_of 456 (by decide +kernel) rfl, wG_of 0 (by decide +kernel) rfl⟩
theorem Y_X5_kick : av_Yv yX5_kick cX5_kick 6 (some .int) 4 := ⟨⟨wG_of 462 (by decide +kernel) rfl, wG_of 40 (by decide +kernel) rfl, by decide +kernel, by decide +kernel, by decide⟩, wG_of 460 (by decide +kernel) rfl, wG_of 461 (by decide +kernel) rfl⟩
theorem Y_X5_appendCharacter : av_Yv yX5_appendCharacter cX5_appendCharacter 2 (some .int) 1 := ⟨⟨wG_of 467 (by decide +kernel) rfl, wG_of 40 (by decide +kernel) rfl, by decide +kernel, by decide +kernel, by decide⟩, wG_of 465 (by decide +kernel) rfl, wG_of 466 (by decide +kernel) rfl⟩
theorem Y_X2_isFull : av_Yv yX2_isFull cX2_isFull 1 (some .boolean) 0 := ⟨⟨wG_of 471 (by decide +kernel) rfl, wG_of 44 (by decide +kernel) rfl, by decide +kernel, by decide +kernel, by decide⟩, wG_of 469 (by decide +kernel) rfl, wG_of 470 (by decide +kernel) rfl⟩
theorem Y_X2_add : av_Yv yX2_add cX2_add 2 none 1 := ⟨⟨wG_of 475 (by decide +kernel) rfl, wG_of 44 (by decide +kernel) rfl, by decide +kernel, by decide +kernel, by decide⟩, wG_of 473 (by decide +kernel) rfl, wG_of 474 (by decide +kernel) rfl⟩
theorem Y_X5_clearText : av_Yv yX5_clearText cX5_clearText 2 (some .int) 0 := ⟨⟨wG_of 480 (by decide +kernel) rfl, wG_of 40 (by decide +kernel) rfl, by decide +kernel, by decide +kernel, by decide⟩, wG_of 478 (by decide +kernel) rfl, wG_of 479 (by decide +kernel) rfl⟩
theorem Y_X2_empty : av_Yv yX2_empty cX2_empty 1 none 0 := ⟨⟨wG_of 484 (by decide +kernel) rfl, wG_of 44 (by decide +kernel) rfl, by decide +kernel, by decide +kernel, by decide⟩, wG_of 482 (by decide +kernel) rfl, wG_of 483 (by decide +kernel) rfl⟩
theorem Y_X5_applyModes : av_Yv yX5_applyModes cX5_applyModes 7 (some .int) 3 := ⟨⟨wG_of 488 (by decide +kernel) rfl, wG_of 40 (by decide +kernel) rfl, by decide +kernel, by decide +kernel, by decide⟩, wG_of 486 (by decide +kernel) rfl, wG_of 487 (by decide +kernel) rfl⟩
theorem Y_X2_errorOffset : av_Yv yX2_errorOffset cX2_errorOffset 4 (some .int) 1 := ⟨⟨wG_of 492 (by decide +kernel) rfl, wG_of 44 (by decide +kernel) rfl, by decide +kernel, by decide +kernel, by decide⟩, wG_of 490 (by decide +kernel) rfl, wG_of 491 (by decide +kernel) rfl⟩
theorem Y_X2_placeAfter : av_Ys yX2_placeAfter cX2_placeAfter 4 (some .int) 3 := ⟨⟨wG_of 495 (by decide +kernel) rfl, wG_of 44 (by decide +kernel) rfl, by decide +kernel, by decide +kernel, by decide⟩, wG_of 494 (by decide +kernel) rfl⟩
theorem Y_X2_isDigit : av_Ys yX2_isDigit cX2_isDigit 1 (some .boolean) 1 := ⟨⟨wG_of 498 (by decide +kernel) rfl, wG_of 44 (by decide +kernel) rfl, by decide +kernel, by decide +kernel, by decide⟩, wG_of 497 (by decide +kernel) rfl⟩
theorem Y_X2_isSign : av_Ys yX2_isSign cX2_isSign 1 (some .boolean) 1 := ⟨⟨wG_of 502 (by decide +kernel) rfl, wG_of 44 (by decide +kernel) rfl, by decide +kernel, by decide +kernel, by decide⟩, wG_of 501 (by decide +kernel) rfl⟩
theorem Y_J0_indexOf_0f7a4 : av_Yv yJ0_indexOf_0f7a4 cJ0_indexOf_0f7a4 2 (some .int) 1 := ⟨⟨wG_of 507 (by decide +kernel) rfl, wG_of 51 (by decide +kernel) rfl, by decide +kernel, by decide +kernel, by decide⟩, wG_of 505 (by decide +kernel) rfl, wG_of 506 (by decide +kernel) rfl⟩
theorem Y_J0_indexOf_7cf53 : av_Yv yJ0_indexOf_7cf53 cJ0_indexOf_7cf53 3 (some .int) 2 := ⟨⟨wG_of 511 (by decide +kernel) rfl, wG_of 51 (by decide +kernel) rfl, by decide +kernel, by decide +kernel, by decide⟩, wG_of 509 (by decide +kernel) rfl, wG_of 510 (by decide +kernel) rfl⟩
theorem Y_J0_isLatin1_aae02 : av_Yv yJ0_isLatin1_aae02 cJ0_isLatin1_aae02 1 (some .boolean) 0 := ⟨⟨wG_of 515 (by decide +kernel) rfl, wG_of 51 (by decide +kernel) rfl, by decide +kernel, by decide +kernel, by decide⟩, wG_of 513 (by decide +kernel) rfl, wG_of 514 (by decide +kernel) rfl⟩
theorem Y_J0_length_8abf5 : av_Yv yJ0_length_8abf5 cJ0_length_8abf5 1 (some .int) 0 := ⟨⟨wG_of 521 (by decide +kernel) rfl, wG_of 51 (by decide +kernel) rfl, by decide +kernel, by decide +kernel, by decide⟩, wG_of 519 (by decide +kernel) rfl, wG_of 520 (by decide +kernel) rfl⟩
theorem Y_J0_coder_7d493 : av_Yv yJ0_coder_7d493 cJ0_coder_7d493 1 (some .byte) 0 := ⟨⟨wG_of 525 (by decide +kernel) rfl, wG_of 51 (by decide +kernel) rfl, by decide +kernel, by decide +kernel, by decide⟩, wG_of 523 (by decide +kernel) rfl, wG_of 524 (by decide +kernel) rfl⟩
theorem Y_J1_indexOf_4cfef : av_Ys yJ1_indexOf_4cfef cJ1_indexOf_4cfef 4 (some .int) 4 := ⟨⟨wG_of 528 (by decide +kernel) rfl, wG_of 52 (by decide +kernel) rfl, by decide +kernel, by decide +kernel, by decide⟩, wG_of 527 (by decide +kernel) rfl⟩
theorem Y_J1_canEncode_9a6ad : av_Ys yJ1_canEncode_9a6ad cJ1_canEncode_9a6ad 1 (some .boolean) 1 := ⟨⟨wG_of 531 (by decide +kernel) rfl, wG_of 52 (by decide +kernel) rfl, by decide +kernel, by decide +kernel, by decide⟩, wG_of 530 (by decide +kernel) rfl⟩
theorem Y_J1_indexOfChar_4cfef : av_Ys yJ1_indexOfChar_4cfef cJ1_indexOfChar_4cfef 6 (some .int) 4 := ⟨⟨wG_of 536 (by decide +kernel) rfl, wG_of 52 (by decide +kernel) rfl, by decide +kernel, by decide +kernel, by decide⟩, wG_of 535 (by decide +kernel) rfl⟩
theorem Y_J2_indexOf_4cfef : av_Ys yJ2_indexOf_4cfef cJ2_indexOf_4cfef 4 (some .int) 4 := ⟨⟨wG_of 539 (by decide +kernel) rfl, wG_of 53 (by decide +kernel) rfl, by decide +kernel, by decide +kernel, by decide⟩, wG_of 538 (by decide +kernel) rfl⟩
theorem Y_J2_indexOfChar_4cfef : av_Ys yJ2_indexOfChar_4cfef cJ2_indexOfChar_4cfef 4 (some .int) 4 := ⟨⟨wG_of 545 (by decide +kernel) rfl, wG_of 53 (by decide +kernel) rfl, by decide +kernel, by decide +kernel, by decide⟩, wG_of 544 (by decide +kernel) rfl⟩
theorem Y_J2_checkBoundsBeginEnd_d044e : av_Ys yJ2_checkBoundsBeginEnd_d044e cJ2_checkBoundsBeginEnd_d044e 3 none 3 := ⟨⟨wG_of 548 (by decide +kernel) rfl, wG_of 53 (by decide +kernel) rfl, by decide +kernel, by decide +kernel, by decide⟩, wG_of 547 (by decide +kernel) rfl⟩
theorem Y_J2_length_9d52b : av_Ys yJ2_length_9d52b cJ2_length_9d52b 1 (some .int) 1 := ⟨⟨wG_of 551 (by decide +kernel) rfl, wG_of 53 (by decide +kernel) rfl, by decide +kernel, by decide +kernel, by decide⟩, wG_of 550 (by decide +kernel) rfl⟩
theorem Y_J0_checkBoundsBeginEnd_23922 : av_Ys yJ0_checkBoundsBeginEnd_23922 cJ0_checkBoundsBeginEnd_23922 3 none 3 := ⟨⟨wG_of 554 (by decide +kernel) rfl, wG_of 51 (by decide +kernel) rfl, by decide +kernel, by decide +kernel, by decide⟩, wG_of 553 (by decide +kernel) rfl⟩
theorem Y_J3_checkFromToIndex_8c36e : av_Ys yJ3_checkFromToIndex_8c36e cJ3_checkFromToIndex_8c36e 4 (some .int) 4 := ⟨⟨wG_of 559 (by decide +kernel) rfl, wG_of 54 (by decide +kernel) rfl, by decide +kernel, by decide +kernel, by decide⟩, wG_of 558 (by decide +kernel) rfl⟩
theorem Y_J2_indexOfCharUnsafe_4cfef : av_Ys yJ2_indexOfCharUnsafe_4cfef cJ2_indexOfCharUnsafe_4cfef 5 (some .int) 4 := ⟨⟨wG_of 562 (by decide +kernel) rfl, wG_of 53 (by decide +kernel) rfl, by decide +kernel, by decide +kernel, by decide⟩, wG_of 561 (by decide +kernel) rfl⟩
theorem Y_J2_getChar_3b067 : av_Ys yJ2_getChar_3b067 cJ2_getChar_3b067 2 (some .char) 2 := ⟨⟨wG_of 565 (by decide +kernel) rfl, wG_of 53 (by decide +kernel) rfl, by decide +kernel, by decide +kernel, by decide⟩, wG_of 564 (by decide +kernel) rfl⟩
theorem Y_J2_indexOfSupplementary_4cfef : av_Ys yJ2_indexOfSupplementary_4cfef cJ2_indexOfSupplementary_4cfef 7 (some .int) 4 := ⟨⟨wG_of 574 (by decide +kernel) rfl, wG_of 53 (by decide +kernel) rfl, by decide +kernel, by decide +kernel, by decide⟩, wG_of 573 (by decide +kernel) rfl⟩
theorem Y_J11_isValidCodePoint_9a6ad : av_Ys yJ11_isValidCodePoint_9a6ad cJ11_isValidCodePoint_9a6ad 2 (some .boolean) 1 := ⟨⟨wG_of 577 (by decide +kernel) rfl, wG_of 55 (by decide +kernel) rfl, by decide +kernel, by decide +kernel, by decide⟩, wG_of 576 (by decide +kernel) rfl⟩
theorem Y_J11_highSurrogate_5068e : av_Ys yJ11_highSurrogate_5068e cJ11_highSurrogate_5068e 1 (some .char) 1 := ⟨⟨wG_of 580 (by decide +kernel) rfl, wG_of 55 (by decide +kernel) rfl, by decide +kernel, by decide +kernel, by decide⟩, wG_of 579 (by decide +kernel) rfl⟩
theorem Y_J11_lowSurrogate_5068e : av_Ys yJ11_lowSurrogate_5068e cJ11_lowSurrogate_5068e 1 (some .char) 1 := ⟨⟨wG_of 584 (by decide +kernel) rfl, wG_of 55 (by decide +kernel) rfl, by decide +kernel, by decide +kernel, by decide⟩, wG_of 583 (by decide +kernel) rfl⟩
theorem Y_X2_modesAfter : av_Yv yX2_modesAfter cX2_modesAfter 7 (some .int) 1 := ⟨⟨wG_of 591 (by decide +kernel) rfl, wG_of 44 (by decide +kernel) rfl, by decide +kernel, by decide +kernel, by decide⟩, wG_of 589 (by decide +kernel) rfl, wG_of 590 (by decide +kernel) rfl⟩
theorem Y_X2_operatorsAfter : av_Yv yX2_operatorsAfter cX2_operatorsAfter 6 (some .int) 1 := ⟨⟨wG_of 597 (by decide +kernel) rfl, wG_of 44 (by decide +kernel) rfl, by decide +kernel, by decide +kernel, by decide⟩, wG_of 595 (by decide +kernel) rfl, wG_of 596 (by decide +kernel) rfl⟩
theorem Y_X2_countItems : av_Yv yX2_countItems cX2_countItems 4 (some .int) 0 := ⟨⟨wG_of 602 (by decide +kernel) rfl, wG_of 44 (by decide +kernel) rfl, by decide +kernel, by decide +kernel, by decide⟩, wG_of 600 (by decide +kernel) rfl, wG_of 601 (by decide +kernel) rfl⟩
theorem Y_X5_members : av_Yv yX5_members cX5_members 3 (some .int) 2 := ⟨⟨wG_of 607 (by decide +kernel) rfl, wG_of 40 (by decide +kernel) rfl, by decide +kernel, by decide +kernel, by decide⟩, wG_of 605 (by decide +kernel) rfl, wG_of 606 (by decide +kernel) rfl⟩
theorem Y_X5_operators : av_Yv yX5_operators cX5_operators 3 (some .int) 2 := ⟨⟨wG_of 611 (by decide +kernel) rfl, wG_of 40 (by decide +kernel) rfl, by decide +kernel, by decide +kernel, by decide⟩, wG_of 609 (by decide +kernel) rfl, wG_of 610 (by decide +kernel) rfl⟩
theorem Y_X5_modes : av_Yv yX5_modes cX5_modes 3 (some .int) 2 := ⟨⟨wG_of 615 (by decide +kernel) rfl, wG_of 40 (by decide +kernel) rfl, by decide +kernel, by decide +kernel, by decide⟩, wG_of 613 (by decide +kernel) rfl, wG_of 614 (by decide +kernel) rfl⟩
theorem Y_X5_channelTimestamp : av_Yv yX5_channelTimestamp cX5_channelTimestamp 3 (some .int) 2 := ⟨⟨wG_of 619 (by decide +kernel) rfl, wG_of 40 (by decide +kernel) rfl, by decide +kernel, by decide +kernel, by decide⟩, wG_of 617 (by decide +kernel) rfl, wG_of 618 (by decide +kernel) rfl⟩
theorem Y_X5_lastDeprived : av_Yv yX5_lastDeprived cX5_lastDeprived 1 (some .int) 0 := ⟨⟨wG_of 623 (by decide +kernel) rfl, wG_of 40 (by decide +kernel) rfl, by decide +kernel, by decide +kernel, by decide⟩, wG_of 621 (by decide +kernel) rfl, wG_of 622 (by decide +kernel) rfl⟩
theorem Y_X5_lastDropped : av_Yv yX5_lastDropped cX5_lastDropped 1 (some .int) 0 := ⟨⟨wG_of 627 (by decide +kernel) rfl, wG_of 40 (by decide +kernel) rfl, by decide +kernel, by decide +kernel, by decide⟩, wG_of 625 (by decide +kernel) rfl, wG_of 626 (by decide +kernel) rfl⟩
theorem Y_X5_burstSize : av_Yv yX5_burstSize cX5_burstSize 3 (some .int) 2 := ⟨⟨wG_of 631 (by decide +kernel) rfl, wG_of 40 (by decide +kernel) rfl, by decide +kernel, by decide +kernel, by decide⟩, wG_of 629 (by decide +kernel) rfl, wG_of 630 (by decide +kernel) rfl⟩
theorem Y_X4_countMessages : av_Yv yX4_countMessages cX4_countMessages 6 (some .int) 1 := ⟨⟨wG_of 635 (by decide +kernel) rfl, wG_of 41 (by decide +kernel) rfl, by decide +kernel, by decide +kernel, by decide⟩, wG_of 633 (by decide +kernel) rfl, wG_of 634 (by decide +kernel) rfl⟩
theorem Y_X5_killsIfConnected : av_Yv yX5_killsIfConnected cX5_killsIfConnected 3 (some .int) 2 := ⟨⟨wG_of 642 (by decide +kernel) rfl, wG_of 40 (by decide +kernel) rfl, by decide +kernel, by decide +kernel, by decide⟩, wG_of 640 (by decide +kernel) rfl, wG_of 641 (by decide +kernel) rfl⟩
theorem Y_X5_lostIfDisconnected : av_Yv yX5_lostIfDisconnected cX5_lostIfDisconnected 5 (some .int) 2 := ⟨⟨wG_of 646 (by decide +kernel) rfl, wG_of 40 (by decide +kernel) rfl, by decide +kernel, by decide +kernel, by decide⟩, wG_of 644 (by decide +kernel) rfl, wG_of 645 (by decide +kernel) rfl⟩
theorem Y_X5_fewestKills : av_Yv yX5_fewestKills cX5_fewestKills 1 (some .int) 0 := ⟨⟨wG_of 650 (by decide +kernel) rfl, wG_of 40 (by decide +kernel) rfl, by decide +kernel, by decide +kernel, by decide⟩, wG_of 648 (by decide +kernel) rfl, wG_of 649 (by decide +kernel) rfl⟩
theorem Y_X3_findBest : av_Yv yX3_findBest cX3_findBest 2 none 1 := ⟨⟨wG_of 654 (by decide +kernel) rfl, wG_of 45 (by decide +kernel) rfl, by decide +kernel, by decide +kernel, by decide⟩, wG_of 652 (by decide +kernel) rfl, wG_of 653 (by decide +kernel) rfl⟩
theorem Y_X3_load : av_Yv yX3_load cX3_load 7 (some .int) 1 := ⟨⟨wG_of 658 (by decide +kernel) rfl, wG_of 45 (by decide +kernel) rfl, by decide +kernel, by decide +kernel, by decide⟩, wG_of 657 (by decide +kernel) rfl, wG_of 1 (by decide +kernel) rfl⟩
theorem Y_X3_search : av_Yv yX3_search cX3_search 4 none 2 := ⟨⟨wG_of 666 (by decide +kernel) rfl, wG_of 45 (by decide +kernel) rfl, by decide +kernel, by decide +kernel, by decide⟩, wG_of 665 (by decide +kernel) rfl, wG_of 2 (by decide +kernel) rfl⟩
theorem Y_X3_countHopes : av_Ys yX3_countHopes cX3_countHopes 4 (some .int) 2 := ⟨⟨wG_of 669 (by decide +kernel) rfl, wG_of 45 (by decide +kernel) rfl, by decide +kernel, by decide +kernel, by decide⟩, wG_of 668 (by decide +kernel) rfl⟩
theorem Y_X3_mayBeLeft : av_Ys yX3_mayBeLeft cX3_mayBeLeft 8 (some .boolean) 3 := ⟨⟨wG_of 672 (by decide +kernel) rfl, wG_of 45 (by decide +kernel) rfl, by decide +kernel, by decide +kernel, by decide⟩, wG_of 671 (by decide +kernel) rfl⟩
theorem Y_X3_tryLinks : av_Yv yX3_tryLinks cX3_tryLinks 5 none 2 := ⟨⟨wG_of 676 (by decide +kernel) rfl, wG_of 45 (by decide +kernel) rfl, by decide +kernel, by decide +kernel, by decide⟩, wG_of 675 (by decide +kernel) rfl, wG_of 3 (by decide +kernel) rfl⟩
theorem Y_X3_mergeRows : av_Ys yX3_mergeRows cX3_mergeRows 7 none 5 := ⟨⟨wG_of 679 (by decide +kernel) rfl, wG_of 45 (by decide +kernel) rfl, by decide +kernel, by decide +kernel, by decide⟩, wG_of 678 (by decide +kernel) rfl⟩
theorem Y_X5_bestFirstLink : av_Yv yX5_bestFirstLink cX5_bestFirstLink 1 (some .int) 0 := ⟨⟨wG_of 685 (by decide +kernel) rfl, wG_of 40 (by decide +kernel) rfl, by decide +kernel, by decide +kernel, by decide⟩, wG_of 683 (by decide +kernel) rfl, wG_of 684 (by decide +kernel) rfl⟩
theorem Y_X5_undo : av_Yv yX5_undo cX5_undo 1 (some .int) 0 := ⟨⟨wG_of 689 (by decide +kernel) rfl, wG_of 40 (by decide +kernel) rfl, by decide +kernel, by decide +kernel, by decide⟩, wG_of 687 (by decide +kernel) rfl, wG_of 688 (by decide +kernel) rfl⟩
theorem Y_X0_takeBack : av_Yv yX0_takeBack cX0_takeBack 3 none 1 := ⟨⟨wG_of 693 (by decide +kernel) rfl, wG_of 43 (by decide +kernel) rfl, by decide +kernel, by decide +kernel, by decide⟩, wG_of 691 (by decide +kernel) rfl, wG_of 692 (by decide +kernel) rfl⟩
theorem Y_X6_reset : av_Yv yX6_reset cX6_reset 3 none 1 := ⟨⟨wG_of 704 (by decide +kernel) rfl, wG_of 46 (by decide +kernel) rfl, by decide +kernel, by decide +kernel, by decide⟩, wG_of 703 (by decide +kernel) rfl, wG_of 4 (by decide +kernel) rfl⟩
theorem Y_X6_undo : av_Yv yX6_undo cX6_undo 2 (some .int) 0 := ⟨⟨wG_of 748 (by decide +kernel) rfl, wG_of 46 (by decide +kernel) rfl, by decide +kernel, by decide +kernel, by decide⟩, wG_of 746 (by decide +kernel) rfl, wG_of 747 (by decide +kernel) rfl⟩
theorem Y_X6_createServers : av_Yv yX6_createServers cX6_createServers 4 (some .int) 1 := ⟨⟨wG_of 752 (by decide +kernel) rfl, wG_of 46 (by decide +kernel) rfl, by decide +kernel, by decide +kernel, by decide⟩, wG_of 750 (by decide +kernel) rfl, wG_of 751 (by decide +kernel) rfl⟩
theorem Y_X6_in : av_Ys yX6_in cX6_in 3 (some .boolean) 3 := ⟨⟨wG_of 755 (by decide +kernel) rfl, wG_of 46 (by decide +kernel) rfl, by decide +kernel, by decide +kernel, by decide⟩, wG_of 754 (by decide +kernel) rfl⟩
theorem Y_X6_save : av_Yv yX6_save cX6_save 2 none 0 := ⟨⟨wG_of 759 (by decide +kernel) rfl, wG_of 46 (by decide +kernel) rfl, by decide +kernel, by decide +kernel, by decide⟩, wG_of 758 (by decide +kernel) rfl, wG_of 5 (by decide +kernel) rfl⟩
theorem Y_X6_connect : av_Yv yX6_connect cX6_connect 5 (some .int) 2 := ⟨⟨wG_of 763 (by decide +kernel) rfl, wG_of 46 (by decide +kernel) rfl, by decide +kernel, by decide +kernel, by decide⟩, wG_of 761 (by decide +kernel) rfl, wG_of 762 (by decide +kernel) rfl⟩
theorem Y_X6_areServers : av_Yv yX6_areServers cX6_areServers 3 (some .boolean) 2 := ⟨⟨wG_of 767 (by decide +kernel) rfl, wG_of 46 (by decide +kernel) rfl, by decide +kernel, by decide +kernel, by decide⟩, wG_of 766 (by decide +kernel) rfl, wG_of 6 (by decide +kernel) rfl⟩
theorem Y_X6_isServer : av_Yv yX6_isServer cX6_isServer 2 (some .boolean) 1 := ⟨⟨wG_of 771 (by decide +kernel) rfl, wG_of 46 (by decide +kernel) rfl, by decide +kernel, by decide +kernel, by decide⟩, wG_of 770 (by decide +kernel) rfl, wG_of 7 (by decide +kernel) rfl⟩
theorem Y_X6_areConnected : av_Yv yX6_areConnected cX6_areConnected 3 (some .boolean) 2 := ⟨⟨wG_of 775 (by decide +kernel) rfl, wG_of 46 (by decide +kernel) rfl, by decide +kernel, by decide +kernel, by decide⟩, wG_of 774 (by decide +kernel) rfl, wG_of 8 (by decide +kernel) rfl⟩
theorem Y_X6_network : av_Yv yX6_network cX6_network 5 (some .int) 1 := ⟨⟨wG_of 779 (by decide +kernel) rfl, wG_of 46 (by decide +kernel) rfl, by decide +kernel, by decide +kernel, by decide⟩, wG_of 778 (by decide +kernel) rfl, wG_of 9 (by decide +kernel) rfl⟩
theorem Y_X6_has : av_Ys yX6_has cX6_has 2 (some .boolean) 2 := ⟨⟨wG_of 782 (by decide +kernel) rfl, wG_of 46 (by decide +kernel) rfl, by decide +kernel, by decide +kernel, by decide⟩, wG_of 781 (by decide +kernel) rfl⟩
theorem Y_X6_mergeNicks : av_Yv yX6_mergeNicks cX6_mergeNicks 9 (some .int) 2 := ⟨⟨wG_of 786 (by decide +kernel) rfl, wG_of 46 (by decide +kernel) rfl, by decide +kernel, by decide +kernel, by decide⟩, wG_of 785 (by decide +kernel) rfl, wG_of 10 (by decide +kernel) rfl⟩
theorem Y_X6_homeIn : av_Yv yX6_homeIn cX6_homeIn 5 (some .int) 2 := ⟨⟨wG_of 790 (by decide +kernel) rfl, wG_of 46 (by decide +kernel) rfl, by decide +kernel, by decide +kernel, by decide⟩, wG_of 789 (by decide +kernel) rfl, wG_of 11 (by decide +kernel) rfl⟩
theorem Y_X6_isUser : av_Yv yX6_isUser cX6_isUser 3 (some .boolean) 2 := ⟨⟨wG_of 794 (by decide +kernel) rfl, wG_of 46 (by decide +kernel) rfl, by decide +kernel, by decide +kernel, by decide⟩, wG_of 793 (by decide +kernel) rfl, wG_of 12 (by decide +kernel) rfl⟩
theorem Y_X6_userCell : av_Ys yX6_userCell cX6_userCell 2 (some .int) 2 := ⟨⟨wG_of 797 (by decide +kernel) rfl, wG_of 46 (by decide +kernel) rfl, by decide +kernel, by decide +kernel, by decide⟩, wG_of 796 (by decide +kernel) rfl⟩
theorem Y_X6_removeUser : av_Yv yX6_removeUser cX6_removeUser 4 none 2 := ⟨⟨wG_of 801 (by decide +kernel) rfl, wG_of 46 (by decide +kernel) rfl, by decide +kernel, by decide +kernel, by decide⟩, wG_of 800 (by decide +kernel) rfl, wG_of 13 (by decide +kernel) rfl⟩
theorem Y_X6_mergeChannel : av_Yv yX6_mergeChannel cX6_mergeChannel 12 none 3 := ⟨⟨wG_of 805 (by decide +kernel) rfl, wG_of 46 (by decide +kernel) rfl, by decide +kernel, by decide +kernel, by decide⟩, wG_of 804 (by decide +kernel) rfl, wG_of 14 (by decide +kernel) rfl⟩
theorem Y_X6_membersIn : av_Yv yX6_membersIn cX6_membersIn 3 (some .int) 2 := ⟨⟨wG_of 809 (by decide +kernel) rfl, wG_of 46 (by decide +kernel) rfl, by decide +kernel, by decide +kernel, by decide⟩, wG_of 808 (by decide +kernel) rfl, wG_of 15 (by decide +kernel) rfl⟩
theorem Y_X6_nicksIn : av_Yv yX6_nicksIn cX6_nicksIn 9 (some .int) 3 := ⟨⟨wG_of 813 (by decide +kernel) rfl, wG_of 46 (by decide +kernel) rfl, by decide +kernel, by decide +kernel, by decide⟩, wG_of 812 (by decide +kernel) rfl, wG_of 16 (by decide +kernel) rfl⟩
theorem Y_X6_setChannel : av_Yv yX6_setChannel cX6_setChannel 6 none 4 := ⟨⟨wG_of 817 (by decide +kernel) rfl, wG_of 46 (by decide +kernel) rfl, by decide +kernel, by decide +kernel, by decide⟩, wG_of 816 (by decide +kernel) rfl, wG_of 17 (by decide +kernel) rfl⟩
theorem Y_X6_depriveAll : av_Yv yX6_depriveAll cX6_depriveAll 5 none 2 := ⟨⟨wG_of 821 (by decide +kernel) rfl, wG_of 46 (by decide +kernel) rfl, by decide +kernel, by decide +kernel, by decide⟩, wG_of 820 (by decide +kernel) rfl, wG_of 18 (by decide +kernel) rfl⟩
theorem Y_X6_bitCount : av_Ys yX6_bitCount cX6_bitCount 3 (some .int) 1 := ⟨⟨wG_of 824 (by decide +kernel) rfl, wG_of 46 (by decide +kernel) rfl, by decide +kernel, by decide +kernel, by decide⟩, wG_of 823 (by decide +kernel) rfl⟩
theorem Y_X6_setLink : av_Yv yX6_setLink cX6_setLink 4 none 3 := ⟨⟨wG_of 828 (by decide +kernel) rfl, wG_of 46 (by decide +kernel) rfl, by decide +kernel, by decide +kernel, by decide⟩, wG_of 827 (by decide +kernel) rfl, wG_of 19 (by decide +kernel) rfl⟩
theorem Y_X6_disconnect : av_Yv yX6_disconnect cX6_disconnect 3 (some .int) 2 := ⟨⟨wG_of 832 (by decide +kernel) rfl, wG_of 46 (by decide +kernel) rfl, by decide +kernel, by decide +kernel, by decide⟩, wG_of 830 (by decide +kernel) rfl, wG_of 831 (by decide +kernel) rfl⟩
theorem Y_X6_areLinked : av_Yv yX6_areLinked cX6_areLinked 3 (some .boolean) 2 := ⟨⟨wG_of 836 (by decide +kernel) rfl, wG_of 46 (by decide +kernel) rfl, by decide +kernel, by decide +kernel, by decide⟩, wG_of 835 (by decide +kernel) rfl, wG_of 20 (by decide +kernel) rfl⟩
theorem Y_X6_advance : av_Yv yX6_advance cX6_advance 2 (some .int) 1 := ⟨⟨wG_of 840 (by decide +kernel) rfl, wG_of 46 (by decide +kernel) rfl, by decide +kernel, by decide +kernel, by decide⟩, wG_of 838 (by decide +kernel) rfl, wG_of 839 (by decide +kernel) rfl⟩
theorem Y_X6_time : av_Yv yX6_time cX6_time 1 (some .int) 0 := ⟨⟨wG_of 844 (by decide +kernel) rfl, wG_of 46 (by decide +kernel) rfl, by decide +kernel, by decide +kernel, by decide⟩, wG_of 842 (by decide +kernel) rfl, wG_of 843 (by decide +kernel) rfl⟩
theorem Y_X6_hops : av_Yv yX6_hops cX6_hops 7 (some .int) 2 := ⟨⟨wG_of 848 (by decide +kernel) rfl, wG_of 46 (by decide +kernel) rfl, by decide +kernel, by decide +kernel, by decide⟩, wG_of 846 (by decide +kernel) rfl, wG_of 847 (by decide +kernel) rfl⟩
theorem Y_X6_signOn : av_Yv yX6_signOn cX6_signOn 4 (some .int) 2 := ⟨⟨wG_of 852 (by decide +kernel) rfl, wG_of 46 (by decide +kernel) rfl, by decide +kernel, by decide +kernel, by decide⟩, wG_of 850 (by decide +kernel) rfl, wG_of 851 (by decide +kernel) rfl⟩
theorem Y_X6_isPlace : av_Yv yX6_isPlace cX6_isPlace 3 (some .boolean) 2 := ⟨⟨wG_of 856 (by decide +kernel) rfl, wG_of 46 (by decide +kernel) rfl, by decide +kernel, by decide +kernel, by decide⟩, wG_of 855 (by decide +kernel) rfl, wG_of 21 (by decide +kernel) rfl⟩
theorem Y_X6_isNick : av_Ys yX6_isNick cX6_isNick 1 (some .boolean) 1 := ⟨⟨wG_of 859 (by decide +kernel) rfl, wG_of 46 (by decide +kernel) rfl, by decide +kernel, by decide +kernel, by decide⟩, wG_of 858 (by decide +kernel) rfl⟩
theorem Y_X6_signOff : av_Yv yX6_signOff cX6_signOff 4 (some .int) 2 := ⟨⟨wG_of 863 (by decide +kernel) rfl, wG_of 46 (by decide +kernel) rfl, by decide +kernel, by decide +kernel, by decide⟩, wG_of 861 (by decide +kernel) rfl, wG_of 862 (by decide +kernel) rfl⟩
theorem Y_X6_changeNick : av_Yv yX6_changeNick cX6_changeNick 7 (some .int) 3 := ⟨⟨wG_of 867 (by decide +kernel) rfl, wG_of 46 (by decide +kernel) rfl, by decide +kernel, by decide +kernel, by decide⟩, wG_of 865 (by decide +kernel) rfl, wG_of 866 (by decide +kernel) rfl⟩
theorem Y_X6_homeServer : av_Yv yX6_homeServer cX6_homeServer 3 (some .int) 2 := ⟨⟨wG_of 871 (by decide +kernel) rfl, wG_of 46 (by decide +kernel) rfl, by decide +kernel, by decide +kernel, by decide⟩, wG_of 869 (by decide +kernel) rfl, wG_of 870 (by decide +kernel) rfl⟩
theorem Y_X6_userTimestamp : av_Yv yX6_userTimestamp cX6_userTimestamp 4 (some .int) 2 := ⟨⟨wG_of 875 (by decide +kernel) rfl, wG_of 46 (by decide +kernel) rfl, by decide +kernel, by decide +kernel, by decide⟩, wG_of 873 (by decide +kernel) rfl, wG_of 874 (by decide +kernel) rfl⟩
theorem Y_X6_visibleUsers : av_Yv yX6_visibleUsers cX6_visibleUsers 2 (some .int) 1 := ⟨⟨wG_of 879 (by decide +kernel) rfl, wG_of 46 (by decide +kernel) rfl, by decide +kernel, by decide +kernel, by decide⟩, wG_of 877 (by decide +kernel) rfl, wG_of 878 (by decide +kernel) rfl⟩
theorem Y_X6_join : av_Yv yX6_join cX6_join 5 (some .int) 3 := ⟨⟨wG_of 883 (by decide +kernel) rfl, wG_of 46 (by decide +kernel) rfl, by decide +kernel, by decide +kernel, by decide⟩, wG_of 881 (by decide +kernel) rfl, wG_of 882 (by decide +kernel) rfl⟩
theorem Y_X6_isChannel : av_Ys yX6_isChannel cX6_isChannel 1 (some .boolean) 1 := ⟨⟨wG_of 886 (by decide +kernel) rfl, wG_of 46 (by decide +kernel) rfl, by decide +kernel, by decide +kernel, by decide⟩, wG_of 885 (by decide +kernel) rfl⟩
theorem Y_X6_isMember : av_Yv yX6_isMember cX6_isMember 4 (some .boolean) 3 := ⟨⟨wG_of 890 (by decide +kernel) rfl, wG_of 46 (by decide +kernel) rfl, by decide +kernel, by decide +kernel, by decide⟩, wG_of 889 (by decide +kernel) rfl, wG_of 22 (by decide +kernel) rfl⟩
theorem Y_X6_memberCount : av_Yv yX6_memberCount cX6_memberCount 3 (some .int) 2 := ⟨⟨wG_of 894 (by decide +kernel) rfl, wG_of 46 (by decide +kernel) rfl, by decide +kernel, by decide +kernel, by decide⟩, wG_of 893 (by decide +kernel) rfl, wG_of 23 (by decide +kernel) rfl⟩
theorem Y_X6_part : av_Yv yX6_part cX6_part 4 (some .int) 3 := ⟨⟨wG_of 898 (by decide +kernel) rfl, wG_of 46 (by decide +kernel) rfl, by decide +kernel, by decide +kernel, by decide⟩, wG_of 896 (by decide +kernel) rfl, wG_of 897 (by decide +kernel) rfl⟩
theorem Y_X6_leave : av_Yv yX6_leave cX6_leave 4 none 3 := ⟨⟨wG_of 902 (by decide +kernel) rfl, wG_of 46 (by decide +kernel) rfl, by decide +kernel, by decide +kernel, by decide⟩, wG_of 901 (by decide +kernel) rfl, wG_of 24 (by decide +kernel) rfl⟩
theorem Y_X6_kick : av_Yv yX6_kick cX6_kick 5 (some .int) 4 := ⟨⟨wG_of 906 (by decide +kernel) rfl, wG_of 46 (by decide +kernel) rfl, by decide +kernel, by decide +kernel, by decide⟩, wG_of 904 (by decide +kernel) rfl, wG_of 905 (by decide +kernel) rfl⟩
theorem Y_X6_isOperator : av_Yv yX6_isOperator cX6_isOperator 4 (some .boolean) 3 := ⟨⟨wG_of 910 (by decide +kernel) rfl, wG_of 46 (by decide +kernel) rfl, by decide +kernel, by decide +kernel, by decide⟩, wG_of 909 (by decide +kernel) rfl, wG_of 25 (by decide +kernel) rfl⟩
theorem Y_X6_appendCharacter : av_Yv yX6_appendCharacter cX6_appendCharacter 2 (some .int) 1 := ⟨⟨wG_of 914 (by decide +kernel) rfl, wG_of 46 (by decide +kernel) rfl, by decide +kernel, by decide +kernel, by decide⟩, wG_of 912 (by decide +kernel) rfl, wG_of 913 (by decide +kernel) rfl⟩
theorem Y_X6_clearText : av_Yv yX6_clearText cX6_clearText 2 (some .int) 0 := ⟨⟨wG_of 918 (by decide +kernel) rfl, wG_of 46 (by decide +kernel) rfl, by decide +kernel, by decide +kernel, by decide⟩, wG_of 916 (by decide +kernel) rfl, wG_of 917 (by decide +kernel) rfl⟩
theorem Y_X6_applyModes : av_Yv yX6_applyModes cX6_applyModes 5 (some .int) 3 := ⟨⟨wG_of 922 (by decide +kernel) rfl, wG_of 46 (by decide +kernel) rfl, by decide +kernel, by decide +kernel, by decide⟩, wG_of 920 (by decide +kernel) rfl, wG_of 921 (by decide +kernel) rfl⟩
theorem Y_X6_check : av_Yv yX6_check cX6_check 7 (some .int) 1 := ⟨⟨wG_of 926 (by decide +kernel) rfl, wG_of 46 (by decide +kernel) rfl, by decide +kernel, by decide +kernel, by decide⟩, wG_of 925 (by decide +kernel) rfl, wG_of 26 (by decide +kernel) rfl⟩
theorem Y_X6_isSign : av_Ys yX6_isSign cX6_isSign 1 (some .boolean) 1 := ⟨⟨wG_of 929 (by decide +kernel) rfl, wG_of 46 (by decide +kernel) rfl, by decide +kernel, by decide +kernel, by decide⟩, wG_of 928 (by decide +kernel) rfl⟩
theorem Y_X6_modeOf : av_Ys yX6_modeOf cX6_modeOf 1 (some .int) 1 := ⟨⟨wG_of 932 (by decide +kernel) rfl, wG_of 46 (by decide +kernel) rfl, by decide +kernel, by decide +kernel, by decide⟩, wG_of 931 (by decide +kernel) rfl⟩
theorem Y_X6_applyText : av_Yv yX6_applyText cX6_applyText 9 none 2 := ⟨⟨wG_of 936 (by decide +kernel) rfl, wG_of 46 (by decide +kernel) rfl, by decide +kernel, by decide +kernel, by decide⟩, wG_of 935 (by decide +kernel) rfl, wG_of 27 (by decide +kernel) rfl⟩
theorem Y_X6_setOperator : av_Yv yX6_setOperator cX6_setOperator 6 none 4 := ⟨⟨wG_of 940 (by decide +kernel) rfl, wG_of 46 (by decide +kernel) rfl, by decide +kernel, by decide +kernel, by decide⟩, wG_of 939 (by decide +kernel) rfl, wG_of 28 (by decide +kernel) rfl⟩
theorem Y_X6_members : av_Yv yX6_members cX6_members 3 (some .int) 2 := ⟨⟨wG_of 944 (by decide +kernel) rfl, wG_of 46 (by decide +kernel) rfl, by decide +kernel, by decide +kernel, by decide⟩, wG_of 942 (by decide +kernel) rfl, wG_of 943 (by decide +kernel) rfl⟩
theorem Y_X6_operators : av_Yv yX6_operators cX6_operators 3 (some .int) 2 := ⟨⟨wG_of 948 (by decide +kernel) rfl, wG_of 46 (by decide +kernel) rfl, by decide +kernel, by decide +kernel, by decide⟩, wG_of 946 (by decide +kernel) rfl, wG_of 947 (by decide +kernel) rfl⟩
theorem Y_X6_modes : av_Yv yX6_modes cX6_modes 3 (some .int) 2 := ⟨⟨wG_of 952 (by decide +kernel) rfl, wG_of 46 (by decide +kernel) rfl, by decide +kernel, by decide +kernel, by decide⟩, wG_of 950 (by decide +kernel) rfl, wG_of 951 (by decide +kernel) rfl⟩
theorem Y_X6_valueOf : av_Yv yX6_valueOf cX6_valueOf 4 (some .int) 3 := ⟨⟨wG_of 956 (by decide +kernel) rfl, wG_of 46 (by decide +kernel) rfl, by decide +kernel, by decide +kernel, by decide⟩, wG_of 955 (by decide +kernel) rfl, wG_of 29 (by decide +kernel) rfl⟩
theorem Y_X6_channelTimestamp : av_Yv yX6_channelTimestamp cX6_channelTimestamp 3 (some .int) 2 := ⟨⟨wG_of 960 (by decide +kernel) rfl, wG_of 46 (by decide +kernel) rfl, by decide +kernel, by decide +kernel, by decide⟩, wG_of 958 (by decide +kernel) rfl, wG_of 959 (by decide +kernel) rfl⟩
theorem Y_X6_lastDeprived : av_Yv yX6_lastDeprived cX6_lastDeprived 1 (some .int) 0 := ⟨⟨wG_of 964 (by decide +kernel) rfl, wG_of 46 (by decide +kernel) rfl, by decide +kernel, by decide +kernel, by decide⟩, wG_of 962 (by decide +kernel) rfl, wG_of 963 (by decide +kernel) rfl⟩
theorem Y_X6_lastDropped : av_Yv yX6_lastDropped cX6_lastDropped 1 (some .int) 0 := ⟨⟨wG_of 968 (by decide +kernel) rfl, wG_of 46 (by decide +kernel) rfl, by decide +kernel, by decide +kernel, by decide⟩, wG_of 966 (by decide +kernel) rfl, wG_of 967 (by decide +kernel) rfl⟩
theorem Y_X6_burstSize : av_Yv yX6_burstSize cX6_burstSize 4 (some .int) 2 := ⟨⟨wG_of 972 (by decide +kernel) rfl, wG_of 46 (by decide +kernel) rfl, by decide +kernel, by decide +kernel, by decide⟩, wG_of 970 (by decide +kernel) rfl, wG_of 971 (by decide +kernel) rfl⟩
theorem Y_X6_forecastError : av_Yv yX6_forecastError cX6_forecastError 3 (some .int) 2 := ⟨⟨wG_of 976 (by decide +kernel) rfl, wG_of 46 (by decide +kernel) rfl, by decide +kernel, by decide +kernel, by decide⟩, wG_of 975 (by decide +kernel) rfl, wG_of 30 (by decide +kernel) rfl⟩
theorem Y_X6_burstOf : av_Yv yX6_burstOf cX6_burstOf 6 (some .int) 1 := ⟨⟨wG_of 980 (by decide +kernel) rfl, wG_of 46 (by decide +kernel) rfl, by decide +kernel, by decide +kernel, by decide⟩, wG_of 979 (by decide +kernel) rfl, wG_of 31 (by decide +kernel) rfl⟩
theorem Y_X6_killsIfConnected : av_Yv yX6_killsIfConnected cX6_killsIfConnected 4 (some .int) 2 := ⟨⟨wG_of 984 (by decide +kernel) rfl, wG_of 46 (by decide +kernel) rfl, by decide +kernel, by decide +kernel, by decide⟩, wG_of 982 (by decide +kernel) rfl, wG_of 983 (by decide +kernel) rfl⟩
theorem Y_X6_readGroup : av_Yv yX6_readGroup cX6_readGroup 5 none 2 := ⟨⟨wG_of 988 (by decide +kernel) rfl, wG_of 46 (by decide +kernel) rfl, by decide +kernel, by decide +kernel, by decide⟩, wG_of 987 (by decide +kernel) rfl, wG_of 32 (by decide +kernel) rfl⟩
theorem Y_X6_groupCell : av_Ys yX6_groupCell cX6_groupCell 2 (some .int) 2 := ⟨⟨wG_of 991 (by decide +kernel) rfl, wG_of 46 (by decide +kernel) rfl, by decide +kernel, by decide +kernel, by decide⟩, wG_of 990 (by decide +kernel) rfl⟩
theorem Y_X6_mergeGroups : av_Yv yX6_mergeGroups cX6_mergeGroups 9 (some .int) 3 := ⟨⟨wG_of 995 (by decide +kernel) rfl, wG_of 46 (by decide +kernel) rfl, by decide +kernel, by decide +kernel, by decide⟩, wG_of 994 (by decide +kernel) rfl, wG_of 33 (by decide +kernel) rfl⟩
theorem Y_X6_lostIfDisconnected : av_Yv yX6_lostIfDisconnected cX6_lostIfDisconnected 5 (some .int) 2 := ⟨⟨wG_of 999 (by decide +kernel) rfl, wG_of 46 (by decide +kernel) rfl, by decide +kernel, by decide +kernel, by decide⟩, wG_of 997 (by decide +kernel) rfl, wG_of 998 (by decide +kernel) rfl⟩
theorem Y_X6_usersOutside : av_Yv yX6_usersOutside cX6_usersOutside 4 (some .int) 1 := ⟨⟨wG_of 1003 (by decide +kernel) rfl, wG_of 46 (by decide +kernel) rfl, by decide +kernel, by decide +kernel, by decide⟩, wG_of 1002 (by decide +kernel) rfl, wG_of 34 (by decide +kernel) rfl⟩
theorem Y_X6_fewestKills : av_Yv yX6_fewestKills cX6_fewestKills 1 (some .int) 0 := ⟨⟨wG_of 1007 (by decide +kernel) rfl, wG_of 46 (by decide +kernel) rfl, by decide +kernel, by decide +kernel, by decide⟩, wG_of 1005 (by decide +kernel) rfl, wG_of 1006 (by decide +kernel) rfl⟩
theorem Y_X6_searchPlans : av_Yv yX6_searchPlans cX6_searchPlans 4 none 0 := ⟨⟨wG_of 1011 (by decide +kernel) rfl, wG_of 46 (by decide +kernel) rfl, by decide +kernel, by decide +kernel, by decide⟩, wG_of 1010 (by decide +kernel) rfl, wG_of 35 (by decide +kernel) rfl⟩
theorem Y_X6_readGroups : av_Yv yX6_readGroups cX6_readGroups 4 (some .int) 0 := ⟨⟨wG_of 1015 (by decide +kernel) rfl, wG_of 46 (by decide +kernel) rfl, by decide +kernel, by decide +kernel, by decide⟩, wG_of 1014 (by decide +kernel) rfl, wG_of 36 (by decide +kernel) rfl⟩
theorem Y_X6_nextPair : av_Yv yX6_nextPair cX6_nextPair 3 (some .boolean) 2 := ⟨⟨wG_of 1019 (by decide +kernel) rfl, wG_of 46 (by decide +kernel) rfl, by decide +kernel, by decide +kernel, by decide⟩, wG_of 1018 (by decide +kernel) rfl, wG_of 37 (by decide +kernel) rfl⟩
theorem Y_X6_descend : av_Yv yX6_descend cX6_descend 4 none 2 := ⟨⟨wG_of 1023 (by decide +kernel) rfl, wG_of 46 (by decide +kernel) rfl, by decide +kernel, by decide +kernel, by decide⟩, wG_of 1022 (by decide +kernel) rfl, wG_of 38 (by decide +kernel) rfl⟩
theorem Y_X6_bestFirstLink : av_Yv yX6_bestFirstLink cX6_bestFirstLink 1 (some .int) 0 := ⟨⟨wG_of 1027 (by decide +kernel) rfl, wG_of 46 (by decide +kernel) rfl, by decide +kernel, by decide +kernel, by decide⟩, wG_of 1025 (by decide +kernel) rfl, wG_of 1026 (by decide +kernel) rfl⟩
theorem M_X4_43 : av_ml RX4 43 yJ7_fill_53178 := wG_of 70 (by decide +kernel) rfl
theorem M_L_13 : av_ml RL 13 yX5_createServers := wG_of 184 (by decide +kernel) rfl
theorem M_X5_37 : av_ml RX5 37 yX4_countUsers := wG_of 188 (by decide +kernel) rfl
theorem M_X4_59 : av_mlN RX4 59 yX5_hasBit := ⟨_, wN_of 192 (w := Cond.methodLinkNest RX4 59 yX5_hasBit RX5) (by decide +kernel) rfl⟩
theorem M_X4_78 : av_ml RX4 78 yX4_hasUser := wG_of 195 (by decide +kernel) rfl
theorem M_X4_74 : av_ml RX4 74 yX4_userCell := wG_of 199 (by decide +kernel) rfl
theorem M_X5_41 : av_ml RX5 41 yX0_keep := wG_of 202 (by decide +kernel) rfl
theorem M_X0_25 : av_ml RX0 25 yX4_copyFrom := wG_of 206 (by decide +kernel) rfl
theorem M_X4_49 : Cond.methodLink RX4 49 arraycopyName ∈ wG := wG_of 210 (by decide +kernel) rfl
theorem M_X0_29 : av_ml RX0 29 yJ9_min_7cf53 := wG_of 213 (by decide +kernel) rfl
theorem M_X5_45 : av_ml RX5 45 yX4_reset := wG_of 216 (by decide +kernel) rfl
theorem M_L_18 : av_ml RL 18 yX5_connect := wG_of 220 (by decide +kernel) rfl
theorem M_X5_49 : av_ml RX5 49 yX4_hasServers := wG_of 224 (by decide +kernel) rfl
theorem M_X4_55 : av_ml RX4 55 yX4_hasServer := wG_of 228 (by decide +kernel) rfl
theorem M_X5_53 : av_ml RX5 53 yX4_shareNetwork := wG_of 232 (by decide +kernel) rfl
theorem M_X4_71 : av_ml RX4 71 yX4_networkOf := wG_of 236 (by decide +kernel) rfl
theorem M_X4_67 : av_ml RX4 67 yX4_withNeighbours := wG_of 240 (by decide +kernel) rfl
theorem M_X5_56 : av_ml RX5 56 yX1_countKills := wG_of 244 (by decide +kernel) rfl
theorem M_X1_18 : av_ml RX1 18 yX4_networkOf := wG_of 247 (by decide +kernel) rfl
theorem M_X1_24 : av_ml RX1 24 yX4_timeOfNick := wG_of 248 (by decide +kernel) rfl
theorem M_X4_81 : av_ml RX4 81 yX4_homeIn := wG_of 252 (by decide +kernel) rfl
theorem M_X4_84 : av_ml RX4 84 yX4_timeOfUser := wG_of 256 (by decide +kernel) rfl
theorem M_X1_27 : av_ml RX1 27 yX1_survivor := wG_of 260 (by decide +kernel) rfl
theorem M_X1_9 : av_ml RX1 9 yJ9_max_7cf53 := wG_of 263 (by decide +kernel) rfl
theorem M_X1_15 : av_ml RX1 15 yJ9_min_7cf53 := wG_of 266 (by decide +kernel) rfl
theorem M_X5_62 : av_ml RX5 62 yX1_settleNicks := wG_of 267 (by decide +kernel) rfl
theorem M_X1_32 : av_ml RX1 32 yX4_homeIn := wG_of 270 (by decide +kernel) rfl
theorem M_X1_35 : av_ml RX1 35 yX1_settleCollision := wG_of 271 (by decide +kernel) rfl
theorem M_X1_39 : av_ml RX1 39 yX4_timeOfUser := wG_of 274 (by decide +kernel) rfl
theorem M_X1_42 : av_ml RX1 42 yX4_removeUser := wG_of 275 (by decide +kernel) rfl
theorem M_X4_91 : av_ml RX4 91 yX4_removeMember := wG_of 279 (by decide +kernel) rfl
theorem M_X4_111 : av_ml RX4 111 yX4_channelCell := wG_of 283 (by decide +kernel) rfl
theorem M_X4_63 : av_mlN RX4 63 yX5_withBit := ⟨_, wN_of 286 (w := Cond.methodLinkNest RX4 63 yX5_withBit RX5) (by decide +kernel) rfl⟩
theorem M_X5_66 : av_ml RX5 66 yX1_settleChannels := wG_of 289 (by decide +kernel) rfl
theorem M_X1_53 : av_ml RX1 53 yX4_hasChannel := wG_of 292 (by decide +kernel) rfl
theorem M_X4_118 : av_ml RX4 118 yX4_membersIn := wG_of 296 (by decide +kernel) rfl
theorem M_X4_114 : av_ml RX4 114 yX4_unionOf := wG_of 300 (by decide +kernel) rfl
theorem M_X1_57 : av_ml RX1 57 yX1_uniteChannels := wG_of 303 (by decide +kernel) rfl
theorem M_X1_63 : av_ml RX1 63 yX4_timeOfChannel := wG_of 306 (by decide +kernel) rfl
theorem M_X1_66 : av_ml RX1 66 yX1_overruleChannel := wG_of 310 (by decide +kernel) rfl
theorem M_X1_76 : av_ml RX1 76 yX4_operatorsIn := wG_of 313 (by decide +kernel) rfl
theorem M_X1_79 : av_ml RX1 79 yJ6_bitCount_0f7a4 := wG_of 317 (by decide +kernel) rfl
theorem M_X1_69 : av_ml RX1 69 yX4_modesOfChannel := wG_of 323 (by decide +kernel) rfl
theorem M_X1_84 : av_ml RX1 84 yX4_setOperators := wG_of 327 (by decide +kernel) rfl
theorem M_X1_60 : av_ml RX1 60 yX1_tellOfChannel := wG_of 331 (by decide +kernel) rfl
theorem M_X1_72 : av_ml RX1 72 yX4_describeChannel := wG_of 334 (by decide +kernel) rfl
theorem M_X5_69 : av_ml RX5 69 yX4_link := wG_of 338 (by decide +kernel) rfl
theorem M_L_23 : av_ml RL 23 yX5_disconnect := wG_of 342 (by decide +kernel) rfl
theorem M_X5_73 : av_ml RX5 73 yX4_areLinked := wG_of 346 (by decide +kernel) rfl
theorem M_X5_76 : av_ml RX5 76 yX4_unlink := wG_of 350 (by decide +kernel) rfl
theorem M_X5_79 : av_ml RX5 79 yX4_networkOf := wG_of 354 (by decide +kernel) rfl
theorem M_X5_82 : av_ml RX5 82 yJ6_bitCount_0f7a4 := wG_of 355 (by decide +kernel) rfl
theorem M_L_27 : av_ml RL 27 yX5_advance := wG_of 356 (by decide +kernel) rfl
theorem M_L_31 : av_ml RL 31 yX5_time := wG_of 360 (by decide +kernel) rfl
theorem M_L_36 : av_ml RL 36 yX5_hops := wG_of 364 (by decide +kernel) rfl
theorem M_X5_91 : av_ml RX5 91 yX5_hasBit := wG_of 368 (by decide +kernel) rfl
theorem M_X5_94 : av_ml RX5 94 yX4_withNeighbours := wG_of 369 (by decide +kernel) rfl
theorem M_L_40 : av_ml RL 40 yX5_signOn := wG_of 370 (by decide +kernel) rfl
theorem M_X5_97 : av_ml RX5 97 yX4_hasServer := wG_of 374 (by decide +kernel) rfl
theorem M_X5_101 : av_ml RX5 101 yX5_isNick := wG_of 375 (by decide +kernel) rfl
theorem M_X5_104 : av_ml RX5 104 yX4_homeIn := wG_of 378 (by decide +kernel) rfl
theorem M_X5_108 : av_ml RX5 108 yX4_addUser := wG_of 379 (by decide +kernel) rfl
theorem M_L_44 : av_ml RL 44 yX5_signOff := wG_of 383 (by decide +kernel) rfl
theorem M_X5_111 : av_ml RX5 111 yX4_hasUser := wG_of 387 (by decide +kernel) rfl
theorem M_X5_114 : av_ml RX5 114 yX4_countChannelsOf := wG_of 388 (by decide +kernel) rfl
theorem M_X4_87 : av_ml RX4 87 yX4_isMember := wG_of 392 (by decide +kernel) rfl
theorem M_X5_117 : av_ml RX5 117 yX4_removeUser := wG_of 396 (by decide +kernel) rfl
theorem M_L_48 : av_ml RL 48 yX5_changeNick := wG_of 397 (by decide +kernel) rfl
theorem M_X5_120 : av_ml RX5 120 yX4_timeOfUser := wG_of 401 (by decide +kernel) rfl
theorem M_X5_123 : av_ml RX5 123 yX4_renameUser := wG_of 402 (by decide +kernel) rfl
theorem M_X4_95 : av_ml RX4 95 yX4_addUser := wG_of 406 (by decide +kernel) rfl
theorem M_X4_99 : av_ml RX4 99 yX4_addMember := wG_of 407 (by decide +kernel) rfl
theorem M_X4_102 : av_ml RX4 102 yX4_isOperator := wG_of 411 (by decide +kernel) rfl
theorem M_X4_105 : av_ml RX4 105 yX4_addOperator := wG_of 415 (by decide +kernel) rfl
theorem M_X4_108 : av_ml RX4 108 yX4_removeUser := wG_of 419 (by decide +kernel) rfl
theorem M_L_53 : av_ml RL 53 yX5_homeServer := wG_of 420 (by decide +kernel) rfl
theorem M_L_57 : av_ml RL 57 yX5_userTimestamp := wG_of 424 (by decide +kernel) rfl
theorem M_X5_127 : av_ml RX5 127 yX4_timeOfNick := wG_of 428 (by decide +kernel) rfl
theorem M_L_61 : av_ml RL 61 yX5_visibleUsers := wG_of 429 (by decide +kernel) rfl
theorem M_X5_130 : av_ml RX5 130 yX4_nicksIn := wG_of 433 (by decide +kernel) rfl
theorem M_L_65 : av_ml RL 65 yX5_join := wG_of 437 (by decide +kernel) rfl
theorem M_X5_133 : av_ml RX5 133 yX5_isChannel := wG_of 441 (by decide +kernel) rfl
theorem M_X5_136 : av_ml RX5 136 yX4_isMember := wG_of 444 (by decide +kernel) rfl
theorem M_X5_140 : av_ml RX5 140 yX4_hasChannel := wG_of 445 (by decide +kernel) rfl
theorem M_X5_143 : av_ml RX5 143 yX4_describeChannel := wG_of 446 (by decide +kernel) rfl
theorem M_X5_147 : av_ml RX5 147 yX4_addOperator := wG_of 447 (by decide +kernel) rfl
theorem M_X5_150 : av_ml RX5 150 yX4_addMember := wG_of 448 (by decide +kernel) rfl
theorem M_X5_153 : av_ml RX5 153 yX4_membersIn := wG_of 449 (by decide +kernel) rfl
theorem M_L_69 : av_ml RL 69 yX5_part := wG_of 450 (by decide +kernel) rfl
theorem M_X5_156 : av_ml RX5 156 yX5_leaveChannel := wG_of 454 (by decide +kernel) rfl
theorem M_X5_163 : av_ml RX5 163 yX4_removeMember := wG_of 458 (by decide +kernel) rfl
theorem M_L_73 : av_ml RL 73 yX5_kick := wG_of 459 (by decide +kernel) rfl
theorem M_X5_160 : av_ml RX5 160 yX4_isOperator := wG_of 463 (by decide +kernel) rfl
theorem M_L_78 : av_ml RL 78 yX5_appendCharacter := wG_of 464 (by decide +kernel) rfl
theorem M_X5_166 : av_ml RX5 166 yX2_isFull := wG_of 468 (by decide +kernel) rfl
theorem M_X5_170 : av_ml RX5 170 yX2_add := wG_of 472 (by decide +kernel) rfl
theorem M_X2_19 : av_ml RX2 19 yX2_isFull := wG_of 476 (by decide +kernel) rfl
theorem M_L_82 : av_ml RL 82 yX5_clearText := wG_of 477 (by decide +kernel) rfl
theorem M_X5_177 : av_ml RX5 177 yX2_empty := wG_of 481 (by decide +kernel) rfl
theorem M_L_86 : av_ml RL 86 yX5_applyModes := wG_of 485 (by decide +kernel) rfl
theorem M_X5_180 : av_ml RX5 180 yX2_errorOffset := wG_of 489 (by decide +kernel) rfl
theorem M_X2_23 : av_ml RX2 23 yX2_placeAfter := wG_of 493 (by decide +kernel) rfl
theorem M_X2_27 : av_ml RX2 27 yX2_isDigit := wG_of 496 (by decide +kernel) rfl
theorem M_X2_31 : av_mlN RX2 31 yX5_hasBit := ⟨_, wN_of 499 (w := Cond.methodLinkNest RX2 31 yX5_hasBit RX5) (by decide +kernel) rfl⟩
theorem M_X2_35 : av_ml RX2 35 yX2_isSign := wG_of 500 (by decide +kernel) rfl
theorem M_X2_40 : av_ml RX2 40 yJ0_indexOf_0f7a4 := wG_of 504 (by decide +kernel) rfl
theorem M_J0_633 : av_ml RJ0 633 yJ0_indexOf_7cf53 := wG_of 508 (by decide +kernel) rfl
theorem M_J0_492 : av_ml RJ0 492 yJ0_isLatin1_aae02 := wG_of 512 (by decide +kernel) rfl
theorem M_J0_505 : av_ml RJ0 505 yJ0_length_8abf5 := wG_of 518 (by decide +kernel) rfl
theorem M_J0_335 : av_ml RJ0 335 yJ0_coder_7d493 := wG_of 522 (by decide +kernel) rfl
theorem M_J0_637 : av_ml RJ0 637 yJ1_indexOf_4cfef := wG_of 526 (by decide +kernel) rfl
theorem M_J1_88 : av_ml RJ1 88 yJ1_canEncode_9a6ad := wG_of 529 (by decide +kernel) rfl
theorem M_J1_92 : av_ml RJ1 92 yJ9_max_7cf53 := wG_of 532 (by decide +kernel) rfl
theorem M_J1_38 : av_ml RJ1 38 yJ9_min_7cf53 := wG_of 533 (by decide +kernel) rfl
theorem M_J1_95 : av_ml RJ1 95 yJ1_indexOfChar_4cfef := wG_of 534 (by decide +kernel) rfl
theorem M_J0_640 : av_ml RJ0 640 yJ2_indexOf_4cfef := wG_of 537 (by decide +kernel) rfl
theorem M_J2_224 : av_ml RJ2 224 yJ9_max_7cf53 := wG_of 540 (by decide +kernel) rfl
theorem M_J2_183 : av_ml RJ2 183 yJ9_min_7cf53 := wG_of 541 (by decide +kernel) rfl
theorem M_J2_228 : av_ml RJ2 228 yJ2_indexOfChar_4cfef := wG_of 543 (by decide +kernel) rfl
theorem M_J2_96 : av_ml RJ2 96 yJ2_checkBoundsBeginEnd_d044e := wG_of 546 (by decide +kernel) rfl
theorem M_J2_48 : av_ml RJ2 48 yJ2_length_9d52b := wG_of 549 (by decide +kernel) rfl
theorem M_J2_241 : av_ml RJ2 241 yJ0_checkBoundsBeginEnd_23922 := wG_of 552 (by decide +kernel) rfl
theorem M_J0_1062 : av_ml RJ0 1062 yJ3_checkFromToIndex_8c36e := wG_of 557 (by decide +kernel) rfl
theorem M_J2_244 : av_ml RJ2 244 yJ2_indexOfCharUnsafe_4cfef := wG_of 560 (by decide +kernel) rfl
theorem M_J2_71 : av_ml RJ2 71 yJ2_getChar_3b067 := wG_of 563 (by decide +kernel) rfl
theorem M_J2_232 : av_ml RJ2 232 yJ2_indexOfSupplementary_4cfef := wG_of 572 (by decide +kernel) rfl
theorem M_J2_164 : av_ml RJ2 164 yJ11_isValidCodePoint_9a6ad := wG_of 575 (by decide +kernel) rfl
theorem M_J2_157 : av_ml RJ2 157 yJ11_highSurrogate_5068e := wG_of 578 (by decide +kernel) rfl
theorem M_J2_161 : av_ml RJ2 161 yJ11_lowSurrogate_5068e := wG_of 582 (by decide +kernel) rfl
theorem M_X5_183 : av_ml RX5 183 yX4_timeOfChannel := wG_of 586 (by decide +kernel) rfl
theorem M_X5_186 : av_ml RX5 186 yX4_modesOfChannel := wG_of 587 (by decide +kernel) rfl
theorem M_X5_189 : av_ml RX5 189 yX2_modesAfter := wG_of 588 (by decide +kernel) rfl
theorem M_X2_46 : av_mlN RX2 46 yX5_withBit := ⟨_, wN_of 592 (w := Cond.methodLinkNest RX2 46 yX5_withBit RX5) (by decide +kernel) rfl⟩
theorem M_X5_192 : av_ml RX5 192 yX4_operatorsIn := wG_of 593 (by decide +kernel) rfl
theorem M_X5_195 : av_ml RX5 195 yX2_operatorsAfter := wG_of 594 (by decide +kernel) rfl
theorem M_X5_198 : av_ml RX5 198 yX4_setOperators := wG_of 598 (by decide +kernel) rfl
theorem M_X5_201 : av_ml RX5 201 yX2_countItems := wG_of 599 (by decide +kernel) rfl
theorem M_L_90 : av_ml RL 90 yX5_members := wG_of 604 (by decide +kernel) rfl
theorem M_L_94 : av_ml RL 94 yX5_operators := wG_of 608 (by decide +kernel) rfl
theorem M_L_98 : av_ml RL 98 yX5_modes := wG_of 612 (by decide +kernel) rfl
theorem M_L_102 : av_ml RL 102 yX5_channelTimestamp := wG_of 616 (by decide +kernel) rfl
theorem M_L_106 : av_ml RL 106 yX5_lastDeprived := wG_of 620 (by decide +kernel) rfl
theorem M_L_110 : av_ml RL 110 yX5_lastDropped := wG_of 624 (by decide +kernel) rfl
theorem M_L_114 : av_ml RL 114 yX5_burstSize := wG_of 628 (by decide +kernel) rfl
theorem M_X5_211 : av_ml RX5 211 yX4_countMessages := wG_of 632 (by decide +kernel) rfl
theorem M_X4_121 : av_ml RX4 121 yJ6_bitCount_0f7a4 := wG_of 636 (by decide +kernel) rfl
theorem M_X4_126 : av_ml RX4 126 yX4_countUsers := wG_of 637 (by decide +kernel) rfl
theorem M_X4_129 : av_ml RX4 129 yX4_modesOfChannel := wG_of 638 (by decide +kernel) rfl
theorem M_L_118 : av_ml RL 118 yX5_killsIfConnected := wG_of 639 (by decide +kernel) rfl
theorem M_L_122 : av_ml RL 122 yX5_lostIfDisconnected := wG_of 643 (by decide +kernel) rfl
theorem M_L_126 : av_ml RL 126 yX5_fewestKills := wG_of 647 (by decide +kernel) rfl
theorem M_X5_214 : av_ml RX5 214 yX3_findBest := wG_of 651 (by decide +kernel) rfl
theorem M_X3_30 : av_ml RX3 30 yX3_load := wG_of 655 (by decide +kernel) rfl
theorem M_X3_38 : av_ml RX3 38 yX4_hasServer := wG_of 659 (by decide +kernel) rfl
theorem M_X3_44 : av_mlN RX3 44 yX5_hasBit := ⟨_, wN_of 660 (w := Cond.methodLinkNest RX3 44 yX5_hasBit RX5) (by decide +kernel) rfl⟩
theorem M_X3_48 : av_ml RX3 48 yX4_networkOf := wG_of 661 (by decide +kernel) rfl
theorem M_X3_52 : av_ml RX3 52 yX4_timeOfNick := wG_of 662 (by decide +kernel) rfl
theorem M_X3_34 : av_ml RX3 34 yX3_search := wG_of 663 (by decide +kernel) rfl
theorem M_X3_56 : av_ml RX3 56 yX3_countHopes := wG_of 667 (by decide +kernel) rfl
theorem M_X3_78 : av_ml RX3 78 yX3_mayBeLeft := wG_of 670 (by decide +kernel) rfl
theorem M_X3_60 : av_ml RX3 60 yX3_tryLinks := wG_of 673 (by decide +kernel) rfl
theorem M_X3_63 : av_ml RX3 63 yX3_mergeRows := wG_of 677 (by decide +kernel) rfl
theorem M_X3_67 : Cond.methodLink RX3 67 arraycopyName ∈ wG := wG_of 680 (by decide +kernel) rfl
theorem M_X3_73 : av_ml RX3 73 yX1_survivor := wG_of 681 (by decide +kernel) rfl
theorem M_L_130 : av_ml RL 130 yX5_bestFirstLink := wG_of 682 (by decide +kernel) rfl
theorem M_L_134 : av_ml RL 134 yX5_undo := wG_of 686 (by decide +kernel) rfl
theorem M_X5_226 : av_ml RX5 226 yX0_takeBack := wG_of 690 (by decide +kernel) rfl
theorem M_X0_35 : av_ml RX0 35 yJ9_max_7cf53 := wG_of 694 (by decide +kernel) rfl
theorem M_X6_34 : av_ml RX6 34 yX6_reset := wG_of 701 (by decide +kernel) rfl
theorem M_L_137 : av_ml RL 137 yX6_undo := wG_of 745 (by decide +kernel) rfl
theorem M_L_17 : av_ml RL 17 yX6_createServers := wG_of 749 (by decide +kernel) rfl
theorem M_X6_42 : av_ml RX6 42 yX6_in := wG_of 753 (by decide +kernel) rfl
theorem M_X6_69 : av_ml RX6 69 yX6_save := wG_of 756 (by decide +kernel) rfl
theorem M_L_22 : av_ml RL 22 yX6_connect := wG_of 760 (by decide +kernel) rfl
theorem M_X6_92 : av_ml RX6 92 yX6_areServers := wG_of 764 (by decide +kernel) rfl
theorem M_X6_46 : av_ml RX6 46 yX6_isServer := wG_of 768 (by decide +kernel) rfl
theorem M_X6_95 : av_ml RX6 95 yX6_areConnected := wG_of 772 (by decide +kernel) rfl
theorem M_X6_54 : av_ml RX6 54 yX6_network := wG_of 776 (by decide +kernel) rfl
theorem M_X6_50 : av_ml RX6 50 yX6_has := wG_of 780 (by decide +kernel) rfl
theorem M_X6_98 : av_ml RX6 98 yX6_mergeNicks := wG_of 783 (by decide +kernel) rfl
theorem M_X6_72 : av_ml RX6 72 yX6_homeIn := wG_of 787 (by decide +kernel) rfl
theorem M_X6_62 : av_ml RX6 62 yX6_isUser := wG_of 791 (by decide +kernel) rfl
theorem M_X6_58 : av_ml RX6 58 yX6_userCell := wG_of 795 (by decide +kernel) rfl
theorem M_X6_75 : av_ml RX6 75 yX6_removeUser := wG_of 798 (by decide +kernel) rfl
theorem M_X6_101 : av_ml RX6 101 yX6_mergeChannel := wG_of 802 (by decide +kernel) rfl
theorem M_X6_82 : av_ml RX6 82 yX6_membersIn := wG_of 806 (by decide +kernel) rfl
theorem M_X6_65 : av_ml RX6 65 yX6_nicksIn := wG_of 810 (by decide +kernel) rfl
theorem M_X6_85 : av_ml RX6 85 yX6_setChannel := wG_of 814 (by decide +kernel) rfl
theorem M_X6_89 : av_ml RX6 89 yX6_depriveAll := wG_of 818 (by decide +kernel) rfl
theorem M_X6_79 : av_ml RX6 79 yX6_bitCount := wG_of 822 (by decide +kernel) rfl
theorem M_X6_105 : av_ml RX6 105 yX6_setLink := wG_of 825 (by decide +kernel) rfl
theorem M_L_26 : av_ml RL 26 yX6_disconnect := wG_of 829 (by decide +kernel) rfl
theorem M_X6_109 : av_ml RX6 109 yX6_areLinked := wG_of 833 (by decide +kernel) rfl
theorem M_L_30 : av_ml RL 30 yX6_advance := wG_of 837 (by decide +kernel) rfl
theorem M_L_35 : av_ml RL 35 yX6_time := wG_of 841 (by decide +kernel) rfl
theorem M_L_39 : av_ml RL 39 yX6_hops := wG_of 845 (by decide +kernel) rfl
theorem M_L_43 : av_ml RL 43 yX6_signOn := wG_of 849 (by decide +kernel) rfl
theorem M_X6_115 : av_ml RX6 115 yX6_isPlace := wG_of 853 (by decide +kernel) rfl
theorem M_X6_112 : av_ml RX6 112 yX6_isNick := wG_of 857 (by decide +kernel) rfl
theorem M_L_47 : av_ml RL 47 yX6_signOff := wG_of 860 (by decide +kernel) rfl
theorem M_L_52 : av_ml RL 52 yX6_changeNick := wG_of 864 (by decide +kernel) rfl
theorem M_L_56 : av_ml RL 56 yX6_homeServer := wG_of 868 (by decide +kernel) rfl
theorem M_L_60 : av_ml RL 60 yX6_userTimestamp := wG_of 872 (by decide +kernel) rfl
theorem M_L_64 : av_ml RL 64 yX6_visibleUsers := wG_of 876 (by decide +kernel) rfl
theorem M_L_68 : av_ml RL 68 yX6_join := wG_of 880 (by decide +kernel) rfl
theorem M_X6_118 : av_ml RX6 118 yX6_isChannel := wG_of 884 (by decide +kernel) rfl
theorem M_X6_121 : av_ml RX6 121 yX6_isMember := wG_of 887 (by decide +kernel) rfl
theorem M_X6_124 : av_ml RX6 124 yX6_memberCount := wG_of 891 (by decide +kernel) rfl
theorem M_L_72 : av_ml RL 72 yX6_part := wG_of 895 (by decide +kernel) rfl
theorem M_X6_127 : av_ml RX6 127 yX6_leave := wG_of 899 (by decide +kernel) rfl
theorem M_L_77 : av_ml RL 77 yX6_kick := wG_of 903 (by decide +kernel) rfl
theorem M_X6_130 : av_ml RX6 130 yX6_isOperator := wG_of 907 (by decide +kernel) rfl
theorem M_L_81 : av_ml RL 81 yX6_appendCharacter := wG_of 911 (by decide +kernel) rfl
theorem M_L_85 : av_ml RL 85 yX6_clearText := wG_of 915 (by decide +kernel) rfl
theorem M_L_89 : av_ml RL 89 yX6_applyModes := wG_of 919 (by decide +kernel) rfl
theorem M_X6_149 : av_ml RX6 149 yX6_check := wG_of 923 (by decide +kernel) rfl
theorem M_X6_139 : av_ml RX6 139 yX6_isSign := wG_of 927 (by decide +kernel) rfl
theorem M_X6_142 : av_ml RX6 142 yX6_modeOf := wG_of 930 (by decide +kernel) rfl
theorem M_X6_152 : av_ml RX6 152 yX6_applyText := wG_of 933 (by decide +kernel) rfl
theorem M_X6_145 : av_ml RX6 145 yX6_setOperator := wG_of 937 (by decide +kernel) rfl
theorem M_L_93 : av_ml RL 93 yX6_members := wG_of 941 (by decide +kernel) rfl
theorem M_L_97 : av_ml RL 97 yX6_operators := wG_of 945 (by decide +kernel) rfl
theorem M_L_101 : av_ml RL 101 yX6_modes := wG_of 949 (by decide +kernel) rfl
theorem M_X6_155 : av_ml RX6 155 yX6_valueOf := wG_of 953 (by decide +kernel) rfl
theorem M_L_105 : av_ml RL 105 yX6_channelTimestamp := wG_of 957 (by decide +kernel) rfl
theorem M_L_109 : av_ml RL 109 yX6_lastDeprived := wG_of 961 (by decide +kernel) rfl
theorem M_L_113 : av_ml RL 113 yX6_lastDropped := wG_of 965 (by decide +kernel) rfl
theorem M_L_117 : av_ml RL 117 yX6_burstSize := wG_of 969 (by decide +kernel) rfl
theorem M_X6_158 : av_ml RX6 158 yX6_forecastError := wG_of 973 (by decide +kernel) rfl
theorem M_X6_161 : av_ml RX6 161 yX6_burstOf := wG_of 977 (by decide +kernel) rfl
theorem M_L_121 : av_ml RL 121 yX6_killsIfConnected := wG_of 981 (by decide +kernel) rfl
theorem M_X6_164 : av_ml RX6 164 yX6_readGroup := wG_of 985 (by decide +kernel) rfl
theorem M_X6_173 : av_ml RX6 173 yX6_groupCell := wG_of 989 (by decide +kernel) rfl
theorem M_X6_167 : av_ml RX6 167 yX6_mergeGroups := wG_of 992 (by decide +kernel) rfl
theorem M_L_125 : av_ml RL 125 yX6_lostIfDisconnected := wG_of 996 (by decide +kernel) rfl
theorem M_X6_170 : av_ml RX6 170 yX6_usersOutside := wG_of 1000 (by decide +kernel) rfl
theorem M_L_129 : av_ml RL 129 yX6_fewestKills := wG_of 1004 (by decide +kernel) rfl
theorem M_X6_192 : av_ml RX6 192 yX6_searchPlans := wG_of 1008 (by decide +kernel) rfl
theorem M_X6_176 : av_ml RX6 176 yX6_readGroups := wG_of 1012 (by decide +kernel) rfl
theorem M_X6_186 : av_ml RX6 186 yX6_nextPair := wG_of 1016 (by decide +kernel) rfl
theorem M_X6_189 : av_ml RX6 189 yX6_descend := wG_of 1020 (by decide +kernel) rfl
theorem M_L_133 : av_ml RL 133 yX6_bestFirstLink := wG_of 1024 (by decide +kernel) rfl
theorem W_max : Cond.static Lib.Math.max.name ∈ wG ∧ Cond.initialized "java/lang/Math" ∈ wG ∧ Cond.code Lib.Math.max.name Lib.Math.max.code 2 (some .int) ∈ wG := ⟨wG_of 264 (by decide +kernel) rfl, wG_of 48 (by decide +kernel) rfl, wG_of 265 (by decide +kernel) rfl⟩
theorem W_min : Cond.static Lib.Math.min.name ∈ wG ∧ Cond.initialized "java/lang/Math" ∈ wG ∧ Cond.code Lib.Math.min.name Lib.Math.min.code 2 (some .int) ∈ wG := ⟨wG_of 214 (by decide +kernel) rfl, wG_of 48 (by decide +kernel) rfl, wG_of 215 (by decide +kernel) rfl⟩
theorem W_acopy : Cond.native arraycopyName ∈ wG ∧ Cond.static arraycopyName ∈ wG ∧ Cond.initialized "java/lang/System" ∈ wG := ⟨wG_of 212 (by decide +kernel) rfl, wG_of 211 (by decide +kernel) rfl, wG_of 47 (by decide +kernel) rfl⟩
theorem L_X4_9 : av_lk RX4 9 TX4 0 := Or.inl (wG_of 73 (by decide +kernel) rfl)
theorem L_X4_15 : av_lk RX4 15 TX4 1 := Or.inl (wG_of 74 (by decide +kernel) rfl)
theorem L_X5_87 : av_lk RX5 87 TX4 1 := Or.inr ⟨RX5, wN_of 75 (by decide +kernel) rfl⟩
theorem L_X4_18 : av_lk RX4 18 TX4 2 := Or.inl (wG_of 76 (by decide +kernel) rfl)
theorem L_X1_46 : av_lk RX1 46 TX4 2 := Or.inr ⟨RX5, wN_of 77 (by decide +kernel) rfl⟩
theorem L_X5_205 : av_lk RX5 205 TX4 2 := Or.inr ⟨RX5, wN_of 78 (by decide +kernel) rfl⟩
theorem L_X4_21 : av_lk RX4 21 TX4 3 := Or.inl (wG_of 79 (by decide +kernel) rfl)
theorem L_X1_50 : av_lk RX1 50 TX4 3 := Or.inr ⟨RX5, wN_of 80 (by decide +kernel) rfl⟩
theorem L_X5_208 : av_lk RX5 208 TX4 3 := Or.inr ⟨RX5, wN_of 81 (by decide +kernel) rfl⟩
theorem L_X4_24 : av_lk RX4 24 TX4 4 := Or.inl (wG_of 82 (by decide +kernel) rfl)
theorem L_X4_28 : av_lk RX4 28 TX4 5 := Or.inl (wG_of 83 (by decide +kernel) rfl)
theorem L_X4_31 : av_lk RX4 31 TX4 6 := Or.inl (wG_of 84 (by decide +kernel) rfl)
theorem L_X4_34 : av_lk RX4 34 TX4 7 := Or.inl (wG_of 85 (by decide +kernel) rfl)
theorem L_X4_37 : av_lk RX4 37 TX4 8 := Or.inl (wG_of 86 (by decide +kernel) rfl)
theorem L_X4_40 : av_lk RX4 40 TX4 9 := Or.inl (wG_of 87 (by decide +kernel) rfl)
theorem L_X0_11 : av_lk RX0 11 TX0 0 := Or.inl (wG_of 119 (by decide +kernel) rfl)
theorem L_X0_17 : av_lk RX0 17 TX0 1 := Or.inl (wG_of 120 (by decide +kernel) rfl)
theorem L_X0_21 : av_lk RX0 21 TX0 2 := Or.inl (wG_of 121 (by decide +kernel) rfl)
theorem L_X5_223 : av_lk RX5 223 TX0 2 := Or.inr ⟨RX5, wN_of 122 (by decide +kernel) rfl⟩
theorem L_X2_9 : av_lk RX2 9 TX2 0 := Or.inl (wG_of 136 (by decide +kernel) rfl)
theorem L_X2_15 : av_lk RX2 15 TX2 1 := Or.inl (wG_of 137 (by decide +kernel) rfl)
theorem L_X5_174 : av_lk RX5 174 TX2 1 := Or.inr ⟨RX5, wN_of 138 (by decide +kernel) rfl⟩
theorem L_X3_11 : av_lk RX3 11 TX3 0 := Or.inl (wG_of 153 (by decide +kernel) rfl)
theorem L_X3_16 : av_lk RX3 16 TX3 1 := Or.inl (wG_of 154 (by decide +kernel) rfl)
theorem L_X3_20 : av_lk RX3 20 TX3 2 := Or.inl (wG_of 155 (by decide +kernel) rfl)
theorem L_X3_24 : av_lk RX3 24 TX3 3 := Or.inl (wG_of 156 (by decide +kernel) rfl)
theorem L_X5_220 : av_lk RX5 220 TX3 3 := Or.inr ⟨RX5, wN_of 157 (by decide +kernel) rfl⟩
theorem L_X3_27 : av_lk RX3 27 TX3 4 := Or.inl (wG_of 158 (by decide +kernel) rfl)
theorem L_X5_217 : av_lk RX5 217 TX3 4 := Or.inr ⟨RX5, wN_of 159 (by decide +kernel) rfl⟩
theorem L_X5_12 : av_lk RX5 12 TX5 0 := Or.inl (wG_of 171 (by decide +kernel) rfl)
theorem L_X5_19 : av_lk RX5 19 TX5 1 := Or.inl (wG_of 172 (by decide +kernel) rfl)
theorem L_X5_26 : av_lk RX5 26 TX5 2 := Or.inl (wG_of 173 (by decide +kernel) rfl)
theorem L_X5_33 : av_lk RX5 33 TX5 3 := Or.inl (wG_of 174 (by decide +kernel) rfl)
theorem L_X6_7 : av_lk RX6 7 TX6 0 := Or.inl (wG_of 705 (by decide +kernel) rfl)
theorem L_X6_13 : av_lk RX6 13 TX6 1 := Or.inl (wG_of 706 (by decide +kernel) rfl)
theorem L_X6_38 : av_lk RX6 38 TX6 2 := Or.inl (wG_of 707 (by decide +kernel) rfl)
theorem L_X6_16 : av_lk RX6 16 TX6 3 := Or.inl (wG_of 708 (by decide +kernel) rfl)
theorem L_X6_133 : av_lk RX6 133 TX6 4 := Or.inl (wG_of 709 (by decide +kernel) rfl)
theorem L_X6_136 : av_lk RX6 136 TX6 5 := Or.inl (wG_of 710 (by decide +kernel) rfl)
theorem L_X6_19 : av_lk RX6 19 TX6 6 := Or.inl (wG_of 711 (by decide +kernel) rfl)
theorem L_X6_22 : av_lk RX6 22 TX6 7 := Or.inl (wG_of 712 (by decide +kernel) rfl)
theorem L_X6_25 : av_lk RX6 25 TX6 8 := Or.inl (wG_of 713 (by decide +kernel) rfl)
theorem L_X6_28 : av_lk RX6 28 TX6 9 := Or.inl (wG_of 714 (by decide +kernel) rfl)
theorem L_X6_31 : av_lk RX6 31 TX6 10 := Or.inl (wG_of 715 (by decide +kernel) rfl)
theorem L_X6_180 : av_lk RX6 180 TX6 11 := Or.inl (wG_of 716 (by decide +kernel) rfl)
theorem L_X6_183 : av_lk RX6 183 TX6 12 := Or.inl (wG_of 717 (by decide +kernel) rfl)
theorem U_X0_0 : u_lay RX0 TX0 0 ∈ wG := wG_of 123 (by decide +kernel) (by decide +kernel)
theorem U_X0_1 : u_lay RX0 TX0 1 ∈ wG := wG_of 125 (by decide +kernel) (by decide +kernel)
theorem U_X0_2 : u_lay RX0 TX0 2 ∈ wG := wG_of 127 (by decide +kernel) (by decide +kernel)
theorem C_X0 : av_Cl 0 RX0 TX0 3 tyX0 := ⟨rfl, fun w hw => by
  obtain ⟨k, hk, rfl⟩ := List.mem_map.mp hw
  have hk := List.mem_range.mp hk
  match k, hk with
  | 0, _ => exact U_X0_0
  | 1, _ => exact U_X0_1
  | 2, _ => exact U_X0_2
  | k + 3, h => exact absurd h (by omega), tyX0_ok, nmX0⟩
theorem U_X2_0 : u_lay RX2 TX2 0 ∈ wG := wG_of 139 (by decide +kernel) (by decide +kernel)
theorem U_X2_1 : u_lay RX2 TX2 1 ∈ wG := wG_of 141 (by decide +kernel) (by decide +kernel)
theorem C_X2 : av_Cl 1 RX2 TX2 2 tyX2 := ⟨rfl, fun w hw => by
  obtain ⟨k, hk, rfl⟩ := List.mem_map.mp hw
  have hk := List.mem_range.mp hk
  match k, hk with
  | 0, _ => exact U_X2_0
  | 1, _ => exact U_X2_1
  | k + 2, h => exact absurd h (by omega), tyX2_ok, nmX2⟩
theorem U_X3_0 : u_lay RX3 TX3 0 ∈ wG := wG_of 160 (by decide +kernel) (by decide +kernel)
theorem U_X3_1 : u_lay RX3 TX3 1 ∈ wG := wG_of 162 (by decide +kernel) (by decide +kernel)
theorem U_X3_2 : u_lay RX3 TX3 2 ∈ wG := wG_of 164 (by decide +kernel) (by decide +kernel)
theorem U_X3_3 : u_lay RX3 TX3 3 ∈ wG := wG_of 166 (by decide +kernel) (by decide +kernel)
theorem U_X3_4 : u_lay RX3 TX3 4 ∈ wG := wG_of 168 (by decide +kernel) (by decide +kernel)
theorem C_X3 : av_Cl 2 RX3 TX3 5 tyX3 := ⟨rfl, fun w hw => by
  obtain ⟨k, hk, rfl⟩ := List.mem_map.mp hw
  have hk := List.mem_range.mp hk
  match k, hk with
  | 0, _ => exact U_X3_0
  | 1, _ => exact U_X3_1
  | 2, _ => exact U_X3_2
  | 3, _ => exact U_X3_3
  | 4, _ => exact U_X3_4
  | k + 5, h => exact absurd h (by omega), tyX3_ok, nmX3⟩
theorem U_X4_0 : u_lay RX4 TX4 0 ∈ wG := wG_of 88 (by decide +kernel) (by decide +kernel)
theorem U_X4_1 : u_lay RX4 TX4 1 ∈ wG := wG_of 90 (by decide +kernel) (by decide +kernel)
theorem U_X4_2 : u_lay RX4 TX4 2 ∈ wG := wG_of 92 (by decide +kernel) (by decide +kernel)
theorem U_X4_3 : u_lay RX4 TX4 3 ∈ wG := wG_of 94 (by decide +kernel) (by decide +kernel)
theorem U_X4_4 : u_lay RX4 TX4 4 ∈ wG := wG_of 96 (by decide +kernel) (by decide +kernel)
theorem U_X4_5 : u_lay RX4 TX4 5 ∈ wG := wG_of 98 (by decide +kernel) (by decide +kernel)
theorem U_X4_6 : u_lay RX4 TX4 6 ∈ wG := wG_of 100 (by decide +kernel) (by decide +kernel)
theorem U_X4_7 : u_lay RX4 TX4 7 ∈ wG := wG_of 102 (by decide +kernel) (by decide +kernel)
theorem U_X4_8 : u_lay RX4 TX4 8 ∈ wG := wG_of 104 (by decide +kernel) (by decide +kernel)
theorem U_X4_9 : u_lay RX4 TX4 9 ∈ wG := wG_of 106 (by decide +kernel) (by decide +kernel)
theorem C_X4 : av_Cl 3 RX4 TX4 10 tyX4 := ⟨rfl, fun w hw => by
  obtain ⟨k, hk, rfl⟩ := List.mem_map.mp hw
  have hk := List.mem_range.mp hk
  match k, hk with
  | 0, _ => exact U_X4_0
  | 1, _ => exact U_X4_1
  | 2, _ => exact U_X4_2
  | 3, _ => exact U_X4_3
  | 4, _ => exact U_X4_4
  | 5, _ => exact U_X4_5
  | 6, _ => exact U_X4_6
  | 7, _ => exact U_X4_7
  | 8, _ => exact U_X4_8
  | 9, _ => exact U_X4_9
  | k + 10, h => exact absurd h (by omega), tyX4_ok, nmX4⟩
theorem U_X5_0 : u_lay RX5 TX5 0 ∈ wG := wG_of 175 (by decide +kernel) (by decide +kernel)
theorem U_X5_1 : u_lay RX5 TX5 1 ∈ wG := wG_of 177 (by decide +kernel) (by decide +kernel)
theorem U_X5_2 : u_lay RX5 TX5 2 ∈ wG := wG_of 179 (by decide +kernel) (by decide +kernel)
theorem U_X5_3 : u_lay RX5 TX5 3 ∈ wG := wG_of 181 (by decide +kernel) (by decide +kernel)
theorem C_X5 : av_Cl 4 RX5 TX5 4 tyX5 := ⟨rfl, fun w hw => by
  obtain ⟨k, hk, rfl⟩ := List.mem_map.mp hw
  have hk := List.mem_range.mp hk
  match k, hk with
  | 0, _ => exact U_X5_0
  | 1, _ => exact U_X5_1
  | 2, _ => exact U_X5_2
  | 3, _ => exact U_X5_3
  | k + 4, h => exact absurd h (by omega), tyX5_ok, nmX5⟩
theorem U_X6_0 : u_lay RX6 TX6 0 ∈ wG := wG_of 718 (by decide +kernel) (by decide +kernel)
theorem U_X6_1 : u_lay RX6 TX6 1 ∈ wG := wG_of 720 (by decide +kernel) (by decide +kernel)
theorem U_X6_2 : u_lay RX6 TX6 2 ∈ wG := wG_of 722 (by decide +kernel) (by decide +kernel)
theorem U_X6_3 : u_lay RX6 TX6 3 ∈ wG := wG_of 724 (by decide +kernel) (by decide +kernel)
theorem U_X6_4 : u_lay RX6 TX6 4 ∈ wG := wG_of 726 (by decide +kernel) (by decide +kernel)
theorem U_X6_5 : u_lay RX6 TX6 5 ∈ wG := wG_of 728 (by decide +kernel) (by decide +kernel)
theorem U_X6_6 : u_lay RX6 TX6 6 ∈ wG := wG_of 730 (by decide +kernel) (by decide +kernel)
theorem U_X6_7 : u_lay RX6 TX6 7 ∈ wG := wG_of 732 (by decide +kernel) (by decide +kernel)
theorem U_X6_8 : u_lay RX6 TX6 8 ∈ wG := wG_of 734 (by decide +kernel) (by decide +kernel)
theorem U_X6_9 : u_lay RX6 TX6 9 ∈ wG := wG_of 736 (by decide +kernel) (by decide +kernel)
theorem U_X6_10 : u_lay RX6 TX6 10 ∈ wG := wG_of 738 (by decide +kernel) (by decide +kernel)
theorem U_X6_11 : u_lay RX6 TX6 11 ∈ wG := wG_of 740 (by decide +kernel) (by decide +kernel)
theorem U_X6_12 : u_lay RX6 TX6 12 ∈ wG := wG_of 742 (by decide +kernel) (by decide +kernel)
theorem C_X6 : av_Cl 5 RX6 TX6 13 tyX6 := ⟨rfl, fun w hw => by
  obtain ⟨k, hk, rfl⟩ := List.mem_map.mp hw
  have hk := List.mem_range.mp hk
  match k, hk with
  | 0, _ => exact U_X6_0
  | 1, _ => exact U_X6_1
  | 2, _ => exact U_X6_2
  | 3, _ => exact U_X6_3
  | 4, _ => exact U_X6_4
  | 5, _ => exact U_X6_5
  | 6, _ => exact U_X6_6
  | 7, _ => exact U_X6_7
  | 8, _ => exact U_X6_8
  | 9, _ => exact U_X6_9
  | 10, _ => exact U_X6_10
  | 11, _ => exact U_X6_11
  | 12, _ => exact U_X6_12
  | k + 13, h => exact absurd h (by omega), tyX6_ok, nmX6⟩
theorem sh_st {j : Nat} (h : j < 9) : av_sh (7 * j) = av_st (7 * j) := by
  unfold av_sh
  rw [if_pos (by omega), if_pos (by omega)]
theorem sh_st1 {j : Nat} (h : j < 9) : av_sh (7 * j + 1) = .inr (.inl (0, 6)) := by
  unfold av_sh
  rw [if_pos (by omega)]
  simp only [show (7 * j + 1) % 7 = 1 by omega]
  rfl
theorem sh_st2 {j : Nat} (h : j < 9) : av_sh (7 * j + 2) = .inr (.inl (0, 60)) := by
  unfold av_sh
  rw [if_pos (by omega)]
  simp only [show (7 * j + 2) % 7 = 2 by omega]
  rfl
theorem sh_st3 {j : Nat} (h : j < 9) : av_sh (7 * j + 3) = .inr (.inl (0, 24)) := by
  unfold av_sh
  rw [if_pos (by omega)]
  simp only [show (7 * j + 3) % 7 = 3 by omega]
  rfl
theorem sh_st4 {j : Nat} (h : j < 9) : av_sh (7 * j + 4) = .inr (.inl (0, 24)) := by
  unfold av_sh
  rw [if_pos (by omega)]
  simp only [show (7 * j + 4) % 7 = 4 by omega]
  rfl
theorem sh_st5 {j : Nat} (h : j < 9) : av_sh (7 * j + 5) = .inr (.inl (0, 24)) := by
  unfold av_sh
  rw [if_pos (by omega)]
  simp only [show (7 * j + 5) % 7 = 5 by omega]
  rfl
theorem sh_st6 {j : Nat} (h : j < 9) : av_sh (7 * j + 6) = .inr (.inl (0, 24)) := by
  unfold av_sh
  rw [if_pos (by omega)]
  simp only [show (7 * j + 6) % 7 = 6 by omega]
  rfl
theorem sh_0 : av_sh 0 = .inl (3, [none, none, none, none, some 1, some 2, some 3, some 4, some 5, some 6]) := rfl
theorem sh_1 : av_sh 1 = .inr (.inl (0, 6)) := rfl
theorem sh_2 : av_sh 2 = .inr (.inl (0, 60)) := rfl
theorem sh_3 : av_sh 3 = .inr (.inl (0, 24)) := rfl
theorem sh_4 : av_sh 4 = .inr (.inl (0, 24)) := rfl
theorem sh_5 : av_sh 5 = .inr (.inl (0, 24)) := rfl
theorem sh_6 : av_sh 6 = .inr (.inl (0, 24)) := rfl
theorem sh_76 : av_sh 76 = .inr (.inl (0, 6)) := rfl
theorem sh_78 : av_sh 78 = .inr (.inl (0, 238)) := rfl
theorem sh_79 : av_sh 79 = .inr (.inl (0, 1904)) := rfl
theorem sh_80 : av_sh 80 = .inr (.inl (0, 40)) := rfl
theorem sh_81 : av_sh 81 = .inr (.inl (0, 360)) := rfl
theorem sh_82 : av_sh 82 = .inr (.inl (0, 6)) := rfl
theorem sh_83 : av_sh 83 = .inr (.inl (0, 6)) := rfl
theorem sh_84 : av_sh 84 = .inr (.inl (0, 6)) := rfl
theorem sh_85 : av_sh 85 = .inr (.inl (0, 6)) := rfl
theorem sh_70 : av_sh 70 = .inr (.inl (0, 60)) := rfl
theorem sh_71 : av_sh 71 = .inr (.inl (0, 60)) := rfl
theorem sh_72 : av_sh 72 = .inr (.inl (0, 60)) := rfl
theorem sh_73 : av_sh 73 = .inr (.inl (0, 60)) := rfl
theorem sh_74 : av_sh 74 = .inr (.inl (0, 60)) := rfl
theorem sh_75 : av_sh 75 = .inr (.inl (0, 60)) := rfl
theorem sh_tm {i : Nat} (h : i < 6) : av_sh (70 + i) = .inr (.inl (0, 60)) := by
  match i, h with
  | 0, _ => rfl
  | 1, _ => rfl
  | 2, _ => rfl
  | 3, _ => rfl
  | 4, _ => rfl
  | 5, _ => rfl
  | i + 6, h => exact absurd h (by omega)
theorem sh_63 : av_sh 63 = .inl (4, [some 0, some 64, some 66, some 68]) := rfl
theorem sh_64 : av_sh 64 = .inl (0, [some 65, none, none]) := rfl
theorem sh_65 : av_sh 65 = .inr (.inr (2, 8, fun i => 7 * i + 7)) := rfl
theorem sh_66 : av_sh 66 = .inl (1, [some 67, none]) := rfl
theorem sh_67 : av_sh 67 = .inr (.inl (1, 40)) := rfl
theorem sh_68 : av_sh 68 = .inl (2, [some 69, some 76, none, none, none]) := rfl
theorem sh_69 : av_sh 69 = .inr (.inr (3, 6, fun i => 70 + i)) := rfl
theorem sh_77 : av_sh 77 = .inl (5, [some 78, some 79, none, some 80, none, none, some 81, some 82, some 83, some 84, some 85, none, none]) := rfl
