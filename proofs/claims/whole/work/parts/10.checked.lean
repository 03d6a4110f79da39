set_option maxRecDepth 20000 in
theorem ok_Bars_empty : mOK mprog q_Bars_empty := mOK_of 0 (Tb_at 371 rfl rfl) (Tb_at 54 rfl rfl) (by decide +kernel) (by decide +kernel) (by decide) rfl (by decide +kernel)
set_option maxRecDepth 20000 in
theorem ok_Bars_size : mOK mprog q_Bars_size := mOK_of 0 (Tb_at 657 rfl rfl) (Tb_at 54 rfl rfl) (by decide +kernel) (by decide +kernel) (by decide) rfl (by decide +kernel)
set_option maxRecDepth 20000 in
theorem ok_Bars_open : mOK mprog q_Bars_open := mOK_of 0 (Tb_at 661 rfl rfl) (Tb_at 54 rfl rfl) (by decide +kernel) (by decide +kernel) (by decide) rfl (by decide +kernel)
set_option maxRecDepth 20000 in
theorem ok_Bars_add : mOK mprog q_Bars_add := mOK_of 0 (Tb_at 420 rfl rfl) (Tb_at 54 rfl rfl) (by decide +kernel) (by decide +kernel) (by decide) rfl (by decide +kernel)
set_option maxRecDepth 20000 in
theorem ok_Bars_beginOf : mOK mprog q_Bars_beginOf := mOK_of 0 (Tb_at 428 rfl rfl) (Tb_at 54 rfl rfl) (by decide +kernel) (by decide +kernel) (by decide) rfl (by decide +kernel)
set_option maxRecDepth 20000 in
theorem ok_Bars_endOf : mOK mprog q_Bars_endOf := mOK_of 0 (Tb_at 435 rfl rfl) (Tb_at 54 rfl rfl) (by decide +kernel) (by decide +kernel) (by decide) rfl (by decide +kernel)
set_option maxRecDepth 20000 in
theorem ok_Bars_lengthOf : mOK mprog q_Bars_lengthOf := mOK_of 0 (Tb_at 667 rfl rfl) (Tb_at 54 rfl rfl) (by decide +kernel) (by decide +kernel) (by decide) rfl (by decide +kernel)
set_option maxRecDepth 20000 in
theorem ok_Bars_longest : mOK mprog q_Bars_longest := mOK_of 0 (Tb_at 696 rfl rfl) (Tb_at 54 rfl rfl) (by decide +kernel) (by decide +kernel) (by decide) rfl (by decide +kernel)
set_option maxRecDepth 20000 in
theorem ok_Bars_atLeast : mOK mprog q_Bars_atLeast := mOK_of 0 (Tb_at 687 rfl rfl) (Tb_at 54 rfl rfl) (by decide +kernel) (by decide +kernel) (by decide) rfl (by decide +kernel)
set_option maxRecDepth 20000 in
theorem ok_Bars_spanning : mOK mprog q_Bars_spanning := mOK_of 0 (Tb_at 679 rfl rfl) (Tb_at 54 rfl rfl) (by decide +kernel) (by decide +kernel) (by decide) rfl (by decide +kernel)
set_option maxRecDepth 20000 in
theorem ok_Bars_withoutPartnerIn : mOK mprog q_Bars_withoutPartnerIn := mOK_of 0 (Tb_at 555 rfl rfl) (Tb_at 54 rfl rfl) (by decide +kernel) (by decide +kernel) (by decide) rfl (by decide +kernel)
set_option maxRecDepth 20000 in
theorem ok_Bars_lastOf : mOK mprog q_Bars_lastOf := mOK_of 0 (Tb_at 671 rfl rfl) (Tb_at 54 rfl rfl) (by decide +kernel) (by decide +kernel) (by decide) rfl (by decide +kernel)
set_option maxRecDepth 20000 in
theorem ok_Bars_compare : mOK mprog q_Bars_compare := mOK_of 0 (Tb_at 424 rfl rfl) (Tb_at 54 rfl rfl) (by decide +kernel) (by decide +kernel) (by decide) rfl (by decide +kernel)
set_option maxRecDepth 20000 in
theorem ok_Kin_empty : mOK mprog q_Kin_empty := mOK_of 1 (Tb_at 366 rfl rfl) (Tb_at 53 rfl rfl) (by decide +kernel) (by decide +kernel) (by decide) rfl (by decide +kernel)
set_option maxRecDepth 20000 in
theorem ok_Kin_rootOf : mOK mprog q_Kin_rootOf := mOK_of 1 (Tb_at 416 rfl rfl) (Tb_at 53 rfl rfl) (by decide +kernel) (by decide +kernel) (by decide) rfl (by decide +kernel)
set_option maxRecDepth 20000 in
theorem ok_Kin_sinceOf : mOK mprog q_Kin_sinceOf := mOK_of 1 (Tb_at 411 rfl rfl) (Tb_at 53 rfl rfl) (by decide +kernel) (by decide +kernel) (by decide) rfl (by decide +kernel)
set_option maxRecDepth 20000 in
theorem ok_Kin_come : mOK mprog q_Kin_come := mOK_of 1 (Tb_at 397 rfl rfl) (Tb_at 53 rfl rfl) (by decide +kernel) (by decide +kernel) (by decide) rfl (by decide +kernel)
set_option maxRecDepth 20000 in
theorem ok_Kin_go : mOK mprog q_Kin_go := mOK_of 1 (Tb_at 439 rfl rfl) (Tb_at 53 rfl rfl) (by decide +kernel) (by decide +kernel) (by decide) rfl (by decide +kernel)
set_option maxRecDepth 20000 in
theorem ok_Kin_part : mOK mprog q_Kin_part := mOK_of 1 (Tb_at 464 rfl rfl) (Tb_at 53 rfl rfl) (by decide +kernel) (by decide +kernel) (by decide) rfl (by decide +kernel)
set_option maxRecDepth 20000 in
theorem ok_Kin_beginOfGoing : mOK mprog q_Kin_beginOfGoing := mOK_of 1 (Tb_at 406 rfl rfl) (Tb_at 53 rfl rfl) (by decide +kernel) (by decide +kernel) (by decide) rfl (by decide +kernel)
set_option maxRecDepth 20000 in
theorem ok_Kin_beginOfJoining : mOK mprog q_Kin_beginOfJoining := mOK_of 1 (Tb_at 447 rfl rfl) (Tb_at 53 rfl rfl) (by decide +kernel) (by decide +kernel) (by decide) rfl (by decide +kernel)
set_option maxRecDepth 20000 in
theorem ok_Kin_join : mOK mprog q_Kin_join := mOK_of 1 (Tb_at 451 rfl rfl) (Tb_at 53 rfl rfl) (by decide +kernel) (by decide +kernel) (by decide) rfl (by decide +kernel)
set_option maxRecDepth 20000 in
theorem ok_Kin_lowerRoots : mOK mprog q_Kin_lowerRoots := mOK_of 1 (Tb_at 456 rfl rfl) (Tb_at 53 rfl rfl) (by decide +kernel) (by decide +kernel) (by decide) rfl (by decide +kernel)
set_option maxRecDepth 20000 in
theorem ok_Kin_setSinceOfAll : mOK mprog q_Kin_setSinceOfAll := mOK_of 1 (Tb_at 460 rfl rfl) (Tb_at 53 rfl rfl) (by decide +kernel) (by decide +kernel) (by decide) rfl (by decide +kernel)
set_option maxRecDepth 20000 in
theorem ok_Kin_setSince : mOK mprog q_Kin_setSince := mOK_of 1 (Tb_at 443 rfl rfl) (Tb_at 53 rfl rfl) (by decide +kernel) (by decide +kernel) (by decide) rfl (by decide +kernel)
set_option maxRecDepth 20000 in
theorem ok_Net_empty : mOK mprog q_Net_empty := mOK_of 2 (Tb_at 249 rfl rfl) (Tb_at 52 rfl rfl) (by decide +kernel) (by decide +kernel) (by decide) rfl (by decide +kernel)
set_option maxRecDepth 20000 in
theorem ok_Net_points : mOK mprog q_Net_points := mOK_of 2 (Tb_at 402 rfl rfl) (Tb_at 52 rfl rfl) (by decide +kernel) (by decide +kernel) (by decide) rfl (by decide +kernel)
set_option maxRecDepth 20000 in
theorem ok_Net_edges : mOK mprog q_Net_edges := mOK_of 2 (Tb_at 574 rfl rfl) (Tb_at 52 rfl rfl) (by decide +kernel) (by decide +kernel) (by decide) rfl (by decide +kernel)
set_option maxRecDepth 20000 in
theorem ok_Net_has : mOK mprog q_Net_has := mOK_of 2 (Tb_at 313 rfl rfl) (Tb_at 52 rfl rfl) (by decide +kernel) (by decide +kernel) (by decide) rfl (by decide +kernel)
set_option maxRecDepth 20000 in
theorem ok_Net_joined : mOK mprog q_Net_joined := mOK_of 2 (Tb_at 324 rfl rfl) (Tb_at 52 rfl rfl) (by decide +kernel) (by decide +kernel) (by decide) rfl (by decide +kernel)
set_option maxRecDepth 20000 in
theorem ok_Net_canDo : mOK mprog q_Net_canDo := mOK_of 2 (Tb_at 299 rfl rfl) (Tb_at 52 rfl rfl) (by decide +kernel) (by decide +kernel) (by decide) rfl (by decide +kernel)
set_option maxRecDepth 20000 in
theorem ok_Net_change : mOK mprog q_Net_change := mOK_of 2 (Tb_at 328 rfl rfl) (Tb_at 52 rfl rfl) (by decide +kernel) (by decide +kernel) (by decide) rfl (by decide +kernel)
set_option maxRecDepth 20000 in
theorem ok_Net_pieceOf : mOK mprog q_Net_pieceOf := mOK_of 2 (Tb_at 383 rfl rfl) (Tb_at 52 rfl rfl) (by decide +kernel) (by decide +kernel) (by decide) rfl (by decide +kernel)
set_option maxRecDepth 20000 in
theorem ok_Net_pieces : mOK mprog q_Net_pieces := mOK_of 2 (Tb_at 625 rfl rfl) (Tb_at 52 rfl rfl) (by decide +kernel) (by decide +kernel) (by decide) rfl (by decide +kernel)
set_option maxRecDepth 20000 in
theorem ok_Net_loops : mOK mprog q_Net_loops := mOK_of 2 (Tb_at 630 rfl rfl) (Tb_at 52 rfl rfl) (by decide +kernel) (by decide +kernel) (by decide) rfl (by decide +kernel)
set_option maxRecDepth 20000 in
theorem ok_Net_nearOf : mOK mprog q_Net_nearOf := mOK_of 2 (Tb_at 320 rfl rfl) (Tb_at 52 rfl rfl) (by decide +kernel) (by decide +kernel) (by decide) rfl (by decide +kernel)
set_option maxRecDepth 20000 in
theorem ok_Row_size : mOK mprog q_Row_size := mOK_of 3 (Tb_at 295 rfl rfl) (Tb_at 48 rfl rfl) (by decide +kernel) (by decide +kernel) (by decide) rfl (by decide +kernel)
set_option maxRecDepth 20000 in
theorem ok_Row_empty : mOK mprog q_Row_empty := mOK_of 3 (Tb_at 256 rfl rfl) (Tb_at 48 rfl rfl) (by decide +kernel) (by decide +kernel) (by decide) rfl (by decide +kernel)
set_option maxRecDepth 20000 in
theorem ok_Row_add : mOK mprog q_Row_add := mOK_of 3 (Tb_at 333 rfl rfl) (Tb_at 48 rfl rfl) (by decide +kernel) (by decide +kernel) (by decide) rfl (by decide +kernel)
set_option maxRecDepth 20000 in
theorem ok_Row_removeLast : mOK mprog q_Row_removeLast := mOK_of 3 (Tb_at 539 rfl rfl) (Tb_at 48 rfl rfl) (by decide +kernel) (by decide +kernel) (by decide) rfl (by decide +kernel)
set_option maxRecDepth 20000 in
theorem ok_Row_actAt : mOK mprog q_Row_actAt := mOK_of 3 (Tb_at 348 rfl rfl) (Tb_at 48 rfl rfl) (by decide +kernel) (by decide +kernel) (by decide) rfl (by decide +kernel)
set_option maxRecDepth 20000 in
theorem ok_Row_swapWithNext : mOK mprog q_Row_swapWithNext := mOK_of 3 (Tb_at 551 rfl rfl) (Tb_at 48 rfl rfl) (by decide +kernel) (by decide +kernel) (by decide) rfl (by decide +kernel)
set_option maxRecDepth 20000 in
theorem ok_Row_copy : mOK mprog q_Row_copy := mOK_of 3 (Tb_at 343 rfl rfl) (Tb_at 48 rfl rfl) (by decide +kernel) (by decide +kernel) (by decide) rfl (by decide +kernel)
set_option maxRecDepth 20000 in
theorem ok_Shf_size : mOK mprog q_Shf_size := mOK_of 4 (Tb_at 603 rfl rfl) (Tb_at 49 rfl rfl) (by decide +kernel) (by decide +kernel) (by decide) rfl (by decide +kernel)
set_option maxRecDepth 20000 in
theorem ok_Shf_empty : mOK mprog q_Shf_empty := mOK_of 4 (Tb_at 353 rfl rfl) (Tb_at 49 rfl rfl) (by decide +kernel) (by decide +kernel) (by decide) rfl (by decide +kernel)
set_option maxRecDepth 20000 in
theorem ok_Shf_put : mOK mprog q_Shf_put := mOK_of 4 (Tb_at 522 rfl rfl) (Tb_at 49 rfl rfl) (by decide +kernel) (by decide +kernel) (by decide) rfl (by decide +kernel)
set_option maxRecDepth 20000 in
theorem ok_Shf_last : mOK mprog q_Shf_last := mOK_of 4 (Tb_at 530 rfl rfl) (Tb_at 49 rfl rfl) (by decide +kernel) (by decide +kernel) (by decide) rfl (by decide +kernel)
set_option maxRecDepth 20000 in
theorem ok_Shf_removeLast : mOK mprog q_Shf_removeLast := mOK_of 4 (Tb_at 599 rfl rfl) (Tb_at 49 rfl rfl) (by decide +kernel) (by decide +kernel) (by decide) rfl (by decide +kernel)
set_option maxRecDepth 20000 in
theorem ok_Shf_loseOldest : mOK mprog q_Shf_loseOldest := mOK_of 4 (Tb_at 526 rfl rfl) (Tb_at 49 rfl rfl) (by decide +kernel) (by decide +kernel) (by decide) rfl (by decide +kernel)
set_option maxRecDepth 20000 in
theorem ok_Sto_play : mOK mprog q_Sto_play := mOK_of 5 (Tb_at 361 rfl rfl) (Tb_at 51 rfl rfl) (by decide +kernel) (by decide +kernel) (by decide) rfl (by decide +kernel)
set_option maxRecDepth 20000 in
theorem ok_Sto_step : mOK mprog q_Sto_step := mOK_of 5 (Tb_at 377 rfl rfl) (Tb_at 51 rfl rfl) (by decide +kernel) (by decide +kernel) (by decide) rfl (by decide +kernel)
set_option maxRecDepth 20000 in
theorem ok_Sto_addOpenBars : mOK mprog q_Sto_addOpenBars := mOK_of 5 (Tb_at 468 rfl rfl) (Tb_at 51 rfl rfl) (by decide +kernel) (by decide +kernel) (by decide) rfl (by decide +kernel)
set_option maxRecDepth 20000 in
theorem ok_Txt_length : mOK mprog q_Txt_length := mOK_of 6 (Tb_at 260 rfl rfl) (Tb_at 47 rfl rfl) (by decide +kernel) (by decide +kernel) (by decide) rfl (by decide +kernel)
set_option maxRecDepth 20000 in
theorem ok_Txt_empty : mOK mprog q_Txt_empty := mOK_of 6 (Tb_at 472 rfl rfl) (Tb_at 47 rfl rfl) (by decide +kernel) (by decide +kernel) (by decide) rfl (by decide +kernel)
set_option maxRecDepth 20000 in
theorem ok_Txt_add : mOK mprog q_Txt_add := mOK_of 6 (Tb_at 241 rfl rfl) (Tb_at 47 rfl rfl) (by decide +kernel) (by decide +kernel) (by decide) rfl (by decide +kernel)
set_option maxRecDepth 20000 in
theorem ok_Txt_actAt : mOK mprog q_Txt_actAt := mOK_of 6 (Tb_at 264 rfl rfl) (Tb_at 47 rfl rfl) (by decide +kernel) (by decide +kernel) (by decide) rfl (by decide +kernel)
set_option maxRecDepth 20000 in
theorem ok_Txt_letterAt : mOK mprog q_Txt_letterAt := mOK_of 6 (Tb_at 268 rfl rfl) (Tb_at 47 rfl rfl) (by decide +kernel) (by decide +kernel) (by decide) rfl (by decide +kernel)
set_option maxRecDepth 20000 in
theorem ok_Z_write : mOK mprog q_Z_write := mOK_of 7 (Tb_at 499 rfl rfl) (Tb_at 46 rfl rfl) (by decide +kernel) (by decide +kernel) (by decide) rfl (by decide +kernel)
set_option maxRecDepth 20000 in
theorem ok_Z_wipe : mOK mprog q_Z_wipe := mOK_of 7 (Tb_at 503 rfl rfl) (Tb_at 46 rfl rfl) (by decide +kernel) (by decide +kernel) (by decide) rfl (by decide +kernel)
set_option maxRecDepth 20000 in
theorem ok_Z_fault : mOK mprog q_Z_fault := mOK_of 7 (Tb_at 507 rfl rfl) (Tb_at 46 rfl rfl) (by decide +kernel) (by decide +kernel) (by decide) rfl (by decide +kernel)
set_option maxRecDepth 20000 in
theorem ok_Z_lay : mOK mprog q_Z_lay := mOK_of 7 (Tb_at 511 rfl rfl) (Tb_at 46 rfl rfl) (by decide +kernel) (by decide +kernel) (by decide) rfl (by decide +kernel)
set_option maxRecDepth 20000 in
theorem ok_Z_act : mOK mprog q_Z_act := mOK_of 7 (Tb_at 515 rfl rfl) (Tb_at 46 rfl rfl) (by decide +kernel) (by decide +kernel) (by decide) rfl (by decide +kernel)
set_option maxRecDepth 20000 in
theorem ok_Z_drop : mOK mprog q_Z_drop := mOK_of 7 (Tb_at 535 rfl rfl) (Tb_at 46 rfl rfl) (by decide +kernel) (by decide +kernel) (by decide) rfl (by decide +kernel)
set_option maxRecDepth 20000 in
theorem ok_Z_exchange : mOK mprog q_Z_exchange := mOK_of 7 (Tb_at 543 rfl rfl) (Tb_at 46 rfl rfl) (by decide +kernel) (by decide +kernel) (by decide) rfl (by decide +kernel)
set_option maxRecDepth 20000 in
theorem ok_Z_backwards : mOK mprog q_Z_backwards := mOK_of 7 (Tb_at 559 rfl rfl) (Tb_at 46 rfl rfl) (by decide +kernel) (by decide +kernel) (by decide) rfl (by decide +kernel)
set_option maxRecDepth 20000 in
theorem ok_Z_clear : mOK mprog q_Z_clear := mOK_of 7 (Tb_at 570 rfl rfl) (Tb_at 46 rfl rfl) (by decide +kernel) (by decide +kernel) (by decide) rfl (by decide +kernel)
set_option maxRecDepth 20000 in
theorem ok_Z_undo : mOK mprog q_Z_undo := mOK_of 7 (Tb_at 594 rfl rfl) (Tb_at 46 rfl rfl) (by decide +kernel) (by decide +kernel) (by decide) rfl (by decide +kernel)
set_option maxRecDepth 20000 in
theorem ok_Z_spelt : mOK mprog q_Z_spelt := mOK_of 7 (Tb_at 607 rfl rfl) (Tb_at 46 rfl rfl) (by decide +kernel) (by decide +kernel) (by decide) rfl (by decide +kernel)
set_option maxRecDepth 20000 in
theorem ok_Z_told : mOK mprog q_Z_told := mOK_of 7 (Tb_at 617 rfl rfl) (Tb_at 46 rfl rfl) (by decide +kernel) (by decide +kernel) (by decide) rfl (by decide +kernel)
set_option maxRecDepth 20000 in
theorem ok_Z_graph : mOK mprog q_Z_graph := mOK_of 7 (Tb_at 621 rfl rfl) (Tb_at 46 rfl rfl) (by decide +kernel) (by decide +kernel) (by decide) rfl (by decide +kernel)
set_option maxRecDepth 20000 in
theorem ok_Z_piece : mOK mprog q_Z_piece := mOK_of 7 (Tb_at 636 rfl rfl) (Tb_at 46 rfl rfl) (by decide +kernel) (by decide +kernel) (by decide) rfl (by decide +kernel)
set_option maxRecDepth 20000 in
theorem ok_Z_root : mOK mprog q_Z_root := mOK_of 7 (Tb_at 642 rfl rfl) (Tb_at 46 rfl rfl) (by decide +kernel) (by decide +kernel) (by decide) rfl (by decide +kernel)
set_option maxRecDepth 20000 in
theorem ok_Z_kin : mOK mprog q_Z_kin := mOK_of 7 (Tb_at 647 rfl rfl) (Tb_at 46 rfl rfl) (by decide +kernel) (by decide +kernel) (by decide) rfl (by decide +kernel)
set_option maxRecDepth 20000 in
theorem ok_Z_bar : mOK mprog q_Z_bar := mOK_of 7 (Tb_at 653 rfl rfl) (Tb_at 46 rfl rfl) (by decide +kernel) (by decide +kernel) (by decide) rfl (by decide +kernel)
set_option maxRecDepth 20000 in
theorem ok_Z_lasting : mOK mprog q_Z_lasting := mOK_of 7 (Tb_at 675 rfl rfl) (Tb_at 46 rfl rfl) (by decide +kernel) (by decide +kernel) (by decide) rfl (by decide +kernel)
set_option maxRecDepth 20000 in
theorem ok_Z_longer : mOK mprog q_Z_longer := mOK_of 7 (Tb_at 683 rfl rfl) (Tb_at 46 rfl rfl) (by decide +kernel) (by decide +kernel) (by decide) rfl (by decide +kernel)
set_option maxRecDepth 20000 in
theorem ok_Z_steadiest : mOK mprog q_Z_steadiest := mOK_of 7 (Tb_at 692 rfl rfl) (Tb_at 46 rfl rfl) (by decide +kernel) (by decide +kernel) (by decide) rfl (by decide +kernel)
set_option maxRecDepth 20000 in
theorem ok_Z_keep : mOK mprog q_Z_keep := mOK_of 7 (Tb_at 701 rfl rfl) (Tb_at 46 rfl rfl) (by decide +kernel) (by decide +kernel) (by decide) rfl (by decide +kernel)
set_option maxRecDepth 20000 in
theorem ok_Z_other : mOK mprog q_Z_other := mOK_of 7 (Tb_at 705 rfl rfl) (Tb_at 46 rfl rfl) (by decide +kernel) (by decide +kernel) (by decide) rfl (by decide +kernel)
set_option maxRecDepth 20000 in
theorem ok_Z_back : mOK mprog q_Z_back := mOK_of 7 (Tb_at 709 rfl rfl) (Tb_at 46 rfl rfl) (by decide +kernel) (by decide +kernel) (by decide) rfl (by decide +kernel)
set_option maxRecDepth 20000 in
theorem ok_Z_count : mOK mprog q_Z_count := mOK_of 7 (Tb_at 713 rfl rfl) (Tb_at 46 rfl rfl) (by decide +kernel) (by decide +kernel) (by decide) rfl (by decide +kernel)
set_option maxRecDepth 20000 in
theorem ok_Z_readText : mOK mprog q_Z_readText := mOK_of 7 (Tb_at 245 rfl rfl) (Tb_at 46 rfl rfl) (by decide +kernel) (by decide +kernel) (by decide) rfl (by decide +kernel)
set_option maxRecDepth 20000 in
theorem ok_Z_layTrial : mOK mprog q_Z_layTrial := mOK_of 7 (Tb_at 339 rfl rfl) (Tb_at 46 rfl rfl) (by decide +kernel) (by decide +kernel) (by decide) rfl (by decide +kernel)
set_option maxRecDepth 20000 in
theorem ok_Z_tellAnew : mOK mprog q_Z_tellAnew := mOK_of 7 (Tb_at 357 rfl rfl) (Tb_at 46 rfl rfl) (by decide +kernel) (by decide +kernel) (by decide) rfl (by decide +kernel)
set_option maxRecDepth 20000 in
theorem ok_Z_tryExchange : mOK mprog q_Z_tryExchange := mOK_of 7 (Tb_at 547 rfl rfl) (Tb_at 46 rfl rfl) (by decide +kernel) (by decide +kernel) (by decide) rfl (by decide +kernel)
set_option maxRecDepth 20000 in
theorem ok_Z_addEdgesGoing : mOK mprog q_Z_addEdgesGoing := mOK_of 7 (Tb_at 584 rfl rfl) (Tb_at 46 rfl rfl) (by decide +kernel) (by decide +kernel) (by decide) rfl (by decide +kernel)
set_option maxRecDepth 20000 in
theorem ok_Z_addPointsGoing : mOK mprog q_Z_addPointsGoing := mOK_of 7 (Tb_at 589 rfl rfl) (Tb_at 46 rfl rfl) (by decide +kernel) (by decide +kernel) (by decide) rfl (by decide +kernel)
set_option maxRecDepth 20000 in
theorem ok_Z_actOf : mOK mprog q_Z_actOf := mOK_of 7 (Tb_at 287 rfl rfl) (Tb_at 46 rfl rfl) (by decide +kernel) (by decide +kernel) (by decide) rfl (by decide +kernel)
set_option maxRecDepth 20000 in
theorem ok_Z_kindOf : mOK mprog q_Z_kindOf := mOK_of 7 (Tb_at 309 rfl rfl) (Tb_at 46 rfl rfl) (by decide +kernel) (by decide +kernel) (by decide) rfl (by decide +kernel)
set_option maxRecDepth 20000 in
theorem ok_Z_lowOf : mOK mprog q_Z_lowOf := mOK_of 7 (Tb_at 302 rfl rfl) (Tb_at 46 rfl rfl) (by decide +kernel) (by decide +kernel) (by decide) rfl (by decide +kernel)
set_option maxRecDepth 20000 in
theorem ok_Z_highOf : mOK mprog q_Z_highOf := mOK_of 7 (Tb_at 305 rfl rfl) (Tb_at 46 rfl rfl) (by decide +kernel) (by decide +kernel) (by decide) rfl (by decide +kernel)
set_option maxRecDepth 20000 in
theorem ok_Z_otherWay : mOK mprog q_Z_otherWay := mOK_of 7 (Tb_at 564 rfl rfl) (Tb_at 46 rfl rfl) (by decide +kernel) (by decide +kernel) (by decide) rfl (by decide +kernel)
set_option maxRecDepth 20000 in
theorem ok_Z_isKind : mOK mprog q_Z_isKind := mOK_of 7 (Tb_at 274 rfl rfl) (Tb_at 46 rfl rfl) (by decide +kernel) (by decide +kernel) (by decide) rfl (by decide +kernel)
set_option maxRecDepth 20000 in
theorem ok_Z_isOfEdge : mOK mprog q_Z_isOfEdge := mOK_of 7 (Tb_at 277 rfl rfl) (Tb_at 46 rfl rfl) (by decide +kernel) (by decide +kernel) (by decide) rfl (by decide +kernel)
set_option maxRecDepth 20000 in
theorem ok_Z_itemLength : mOK mprog q_Z_itemLength := mOK_of 7 (Tb_at 280 rfl rfl) (Tb_at 46 rfl rfl) (by decide +kernel) (by decide +kernel) (by decide) rfl (by decide +kernel)
set_option maxRecDepth 20000 in
theorem ok_Z_kindOfLetter : mOK mprog q_Z_kindOfLetter := mOK_of 7 (Tb_at 271 rfl rfl) (Tb_at 46 rfl rfl) (by decide +kernel) (by decide +kernel) (by decide) rfl (by decide +kernel)
set_option maxRecDepth 20000 in
theorem ok_Z_letterOfKind : mOK mprog q_Z_letterOfKind := mOK_of 7 (Tb_at 613 rfl rfl) (Tb_at 46 rfl rfl) (by decide +kernel) (by decide +kernel) (by decide) rfl (by decide +kernel)
set_option maxRecDepth 20000 in
theorem ok_Z_letterOf : mOK mprog q_Z_letterOf := mOK_of 7 (Tb_at 610 rfl rfl) (Tb_at 46 rfl rfl) (by decide +kernel) (by decide +kernel) (by decide) rfl (by decide +kernel)
set_option maxRecDepth 20000 in
theorem ok_Z_isPoint : mOK mprog q_Z_isPoint := mOK_of 7 (Tb_at 284 rfl rfl) (Tb_at 46 rfl rfl) (by decide +kernel) (by decide +kernel) (by decide) rfl (by decide +kernel)
set_option maxRecDepth 20000 in
theorem ok_Z_isIn : mOK mprog q_Z_isIn := mOK_of 7 (Tb_at 316 rfl rfl) (Tb_at 46 rfl rfl) (by decide +kernel) (by decide +kernel) (by decide) rfl (by decide +kernel)
set_option maxRecDepth 20000 in
theorem ok_Z_lowestOf : mOK mprog q_Z_lowestOf := mOK_of 7 (Tb_at 386 rfl rfl) (Tb_at 46 rfl rfl) (by decide +kernel) (by decide +kernel) (by decide) rfl (by decide +kernel)
set_option maxRecDepth 20000 in
theorem ok_M_in : mOK mprog q_M_in := mOK_of 8 (Tb_at 793 rfl rfl) (Tb_at 61 rfl rfl) (by decide +kernel) (by decide +kernel) (by decide) rfl (by decide +kernel)
set_option maxRecDepth 20000 in
theorem ok_M_codeOf : mOK mprog q_M_codeOf := mOK_of 8 (Tb_at 820 rfl rfl) (Tb_at 61 rfl rfl) (by decide +kernel) (by decide +kernel) (by decide) rfl (by decide +kernel)
set_option maxRecDepth 20000 in
theorem ok_M_kindOf : mOK mprog q_M_kindOf := mOK_of 8 (Tb_at 833 rfl rfl) (Tb_at 61 rfl rfl) (by decide +kernel) (by decide +kernel) (by decide) rfl (by decide +kernel)
set_option maxRecDepth 20000 in
theorem ok_M_oneOf : mOK mprog q_M_oneOf := mOK_of 8 (Tb_at 827 rfl rfl) (Tb_at 61 rfl rfl) (by decide +kernel) (by decide +kernel) (by decide) rfl (by decide +kernel)
set_option maxRecDepth 20000 in
theorem ok_M_otherOf : mOK mprog q_M_otherOf := mOK_of 8 (Tb_at 830 rfl rfl) (Tb_at 61 rfl rfl) (by decide +kernel) (by decide +kernel) (by decide) rfl (by decide +kernel)
set_option maxRecDepth 20000 in
theorem ok_M_has : mOK mprog q_M_has := mOK_of 8 (Tb_at 836 rfl rfl) (Tb_at 61 rfl rfl) (by decide +kernel) (by decide +kernel) (by decide) rfl (by decide +kernel)
set_option maxRecDepth 20000 in
theorem ok_M_may : mOK mprog q_M_may := mOK_of 8 (Tb_at 824 rfl rfl) (Tb_at 61 rfl rfl) (by decide +kernel) (by decide +kernel) (by decide) rfl (by decide +kernel)
set_option maxRecDepth 20000 in
theorem ok_M_reach : mOK mprog q_M_reach := mOK_of 8 (Tb_at 880 rfl rfl) (Tb_at 61 rfl rfl) (by decide +kernel) (by decide +kernel) (by decide) rfl (by decide +kernel)
set_option maxRecDepth 20000 in
theorem ok_M_freePiece : mOK mprog q_M_freePiece := mOK_of 8 (Tb_at 848 rfl rfl) (Tb_at 61 rfl rfl) (by decide +kernel) (by decide +kernel) (by decide) rfl (by decide +kernel)
set_option maxRecDepth 20000 in
theorem ok_M_kinOf : mOK mprog q_M_kinOf := mOK_of 8 (Tb_at 860 rfl rfl) (Tb_at 61 rfl rfl) (by decide +kernel) (by decide +kernel) (by decide) rfl (by decide +kernel)
set_option maxRecDepth 20000 in
theorem ok_M_makesKin : mOK mprog q_M_makesKin := mOK_of 8 (Tb_at 852 rfl rfl) (Tb_at 61 rfl rfl) (by decide +kernel) (by decide +kernel) (by decide) rfl (by decide +kernel)
set_option maxRecDepth 20000 in
theorem ok_M_ends : mOK mprog q_M_ends := mOK_of 8 (Tb_at 864 rfl rfl) (Tb_at 61 rfl rfl) (by decide +kernel) (by decide +kernel) (by decide) rfl (by decide +kernel)
set_option maxRecDepth 20000 in
theorem ok_M_goes : mOK mprog q_M_goes := mOK_of 8 (Tb_at 856 rfl rfl) (Tb_at 61 rfl rfl) (by decide +kernel) (by decide +kernel) (by decide) rfl (by decide +kernel)
set_option maxRecDepth 20000 in
theorem ok_M_comes : mOK mprog q_M_comes := mOK_of 8 (Tb_at 844 rfl rfl) (Tb_at 61 rfl rfl) (by decide +kernel) (by decide +kernel) (by decide) rfl (by decide +kernel)
set_option maxRecDepth 20000 in
theorem ok_M_parts : mOK mprog q_M_parts := mOK_of 8 (Tb_at 876 rfl rfl) (Tb_at 61 rfl rfl) (by decide +kernel) (by decide +kernel) (by decide) rfl (by decide +kernel)
set_option maxRecDepth 20000 in
theorem ok_M_bindsNear : mOK mprog q_M_bindsNear := mOK_of 8 (Tb_at 872 rfl rfl) (Tb_at 61 rfl rfl) (by decide +kernel) (by decide +kernel) (by decide) rfl (by decide +kernel)
set_option maxRecDepth 20000 in
theorem ok_M_joins : mOK mprog q_M_joins := mOK_of 8 (Tb_at 868 rfl rfl) (Tb_at 61 rfl rfl) (by decide +kernel) (by decide +kernel) (by decide) rfl (by decide +kernel)
set_option maxRecDepth 20000 in
theorem ok_M_does : mOK mprog q_M_does := mOK_of 8 (Tb_at 840 rfl rfl) (Tb_at 61 rfl rfl) (by decide +kernel) (by decide +kernel) (by decide) rfl (by decide +kernel)
set_option maxRecDepth 20000 in
theorem ok_M_begins : mOK mprog q_M_begins := mOK_of 8 (Tb_at 809 rfl rfl) (Tb_at 61 rfl rfl) (by decide +kernel) (by decide +kernel) (by decide) rfl (by decide +kernel)
set_option maxRecDepth 20000 in
theorem ok_M_runs : mOK mprog q_M_runs := mOK_of 8 (Tb_at 892 rfl rfl) (Tb_at 61 rfl rfl) (by decide +kernel) (by decide +kernel) (by decide) rfl (by decide +kernel)
set_option maxRecDepth 20000 in
theorem ok_M_lowestOf : mOK mprog q_M_lowestOf := mOK_of 8 (Tb_at 912 rfl rfl) (Tb_at 61 rfl rfl) (by decide +kernel) (by decide +kernel) (by decide) rfl (by decide +kernel)
set_option maxRecDepth 20000 in
theorem ok_M_runsAll : mOK mprog q_M_runsAll := mOK_of 8 (Tb_at 908 rfl rfl) (Tb_at 61 rfl rfl) (by decide +kernel) (by decide +kernel) (by decide) rfl (by decide +kernel)
set_option maxRecDepth 20000 in
theorem ok_M_lengthOf : mOK mprog q_M_lengthOf := mOK_of 8 (Tb_at 983 rfl rfl) (Tb_at 61 rfl rfl) (by decide +kernel) (by decide +kernel) (by decide) rfl (by decide +kernel)
set_option maxRecDepth 20000 in
theorem ok_M_bits : mOK mprog q_M_bits := mOK_of 8 (Tb_at 939 rfl rfl) (Tb_at 61 rfl rfl) (by decide +kernel) (by decide +kernel) (by decide) rfl (by decide +kernel)
set_option maxRecDepth 20000 in
theorem ok_M_edges : mOK mprog q_M_edges := mOK_of 8 (Tb_at 936 rfl rfl) (Tb_at 61 rfl rfl) (by decide +kernel) (by decide +kernel) (by decide) rfl (by decide +kernel)
set_option maxRecDepth 20000 in
theorem ok_M_write : mOK mprog q_M_write := mOK_of 8 (Tb_at 790 rfl rfl) (Tb_at 61 rfl rfl) (by decide +kernel) (by decide +kernel) (by decide) rfl (by decide +kernel)
set_option maxRecDepth 20000 in
theorem ok_M_wipe : mOK mprog q_M_wipe := mOK_of 8 (Tb_at 797 rfl rfl) (Tb_at 61 rfl rfl) (by decide +kernel) (by decide +kernel) (by decide) rfl (by decide +kernel)
set_option maxRecDepth 20000 in
theorem ok_M_figureAt : mOK mprog q_M_figureAt := mOK_of 8 (Tb_at 817 rfl rfl) (Tb_at 61 rfl rfl) (by decide +kernel) (by decide +kernel) (by decide) rfl (by decide +kernel)
set_option maxRecDepth 20000 in
theorem ok_M_item : mOK mprog q_M_item := mOK_of 8 (Tb_at 813 rfl rfl) (Tb_at 61 rfl rfl) (by decide +kernel) (by decide +kernel) (by decide) rfl (by decide +kernel)
set_option maxRecDepth 20000 in
theorem ok_M_reads : mOK mprog q_M_reads := mOK_of 8 (Tb_at 805 rfl rfl) (Tb_at 61 rfl rfl) (by decide +kernel) (by decide +kernel) (by decide) rfl (by decide +kernel)
set_option maxRecDepth 20000 in
theorem ok_M_fault : mOK mprog q_M_fault := mOK_of 8 (Tb_at 801 rfl rfl) (Tb_at 61 rfl rfl) (by decide +kernel) (by decide +kernel) (by decide) rfl (by decide +kernel)
set_option maxRecDepth 20000 in
theorem ok_M_lay : mOK mprog q_M_lay := mOK_of 8 (Tb_at 884 rfl rfl) (Tb_at 61 rfl rfl) (by decide +kernel) (by decide +kernel) (by decide) rfl (by decide +kernel)
set_option maxRecDepth 20000 in
theorem ok_M_notes : mOK mprog q_M_notes := mOK_of 8 (Tb_at 896 rfl rfl) (Tb_at 61 rfl rfl) (by decide +kernel) (by decide +kernel) (by decide) rfl (by decide +kernel)
set_option maxRecDepth 20000 in
theorem ok_M_act : mOK mprog q_M_act := mOK_of 8 (Tb_at 888 rfl rfl) (Tb_at 61 rfl rfl) (by decide +kernel) (by decide +kernel) (by decide) rfl (by decide +kernel)
set_option maxRecDepth 20000 in
theorem ok_M_drop : mOK mprog q_M_drop := mOK_of 8 (Tb_at 900 rfl rfl) (Tb_at 61 rfl rfl) (by decide +kernel) (by decide +kernel) (by decide) rfl (by decide +kernel)
set_option maxRecDepth 20000 in
theorem ok_M_sets : mOK mprog q_M_sets := mOK_of 8 (Tb_at 916 rfl rfl) (Tb_at 61 rfl rfl) (by decide +kernel) (by decide +kernel) (by decide) rfl (by decide +kernel)
set_option maxRecDepth 20000 in
theorem ok_M_others : mOK mprog q_M_others := mOK_of 8 (Tb_at 924 rfl rfl) (Tb_at 61 rfl rfl) (by decide +kernel) (by decide +kernel) (by decide) rfl (by decide +kernel)
set_option maxRecDepth 20000 in
theorem ok_M_swaps : mOK mprog q_M_swaps := mOK_of 8 (Tb_at 920 rfl rfl) (Tb_at 61 rfl rfl) (by decide +kernel) (by decide +kernel) (by decide) rfl (by decide +kernel)
set_option maxRecDepth 20000 in
theorem ok_M_exchange : mOK mprog q_M_exchange := mOK_of 8 (Tb_at 904 rfl rfl) (Tb_at 61 rfl rfl) (by decide +kernel) (by decide +kernel) (by decide) rfl (by decide +kernel)
set_option maxRecDepth 20000 in
theorem ok_M_backwards : mOK mprog q_M_backwards := mOK_of 8 (Tb_at 928 rfl rfl) (Tb_at 61 rfl rfl) (by decide +kernel) (by decide +kernel) (by decide) rfl (by decide +kernel)
set_option maxRecDepth 20000 in
theorem ok_M_clear : mOK mprog q_M_clear := mOK_of 8 (Tb_at 932 rfl rfl) (Tb_at 61 rfl rfl) (by decide +kernel) (by decide +kernel) (by decide) rfl (by decide +kernel)
set_option maxRecDepth 20000 in
theorem ok_M_undo : mOK mprog q_M_undo := mOK_of 8 (Tb_at 943 rfl rfl) (Tb_at 61 rfl rfl) (by decide +kernel) (by decide +kernel) (by decide) rfl (by decide +kernel)
set_option maxRecDepth 20000 in
theorem ok_M_letterOf : mOK mprog q_M_letterOf := mOK_of 8 (Tb_at 951 rfl rfl) (Tb_at 61 rfl rfl) (by decide +kernel) (by decide +kernel) (by decide) rfl (by decide +kernel)
set_option maxRecDepth 20000 in
theorem ok_M_spelt : mOK mprog q_M_spelt := mOK_of 8 (Tb_at 947 rfl rfl) (Tb_at 61 rfl rfl) (by decide +kernel) (by decide +kernel) (by decide) rfl (by decide +kernel)
set_option maxRecDepth 20000 in
theorem ok_M_told : mOK mprog q_M_told := mOK_of 8 (Tb_at 955 rfl rfl) (Tb_at 61 rfl rfl) (by decide +kernel) (by decide +kernel) (by decide) rfl (by decide +kernel)
set_option maxRecDepth 20000 in
theorem ok_M_graph : mOK mprog q_M_graph := mOK_of 8 (Tb_at 959 rfl rfl) (Tb_at 61 rfl rfl) (by decide +kernel) (by decide +kernel) (by decide) rfl (by decide +kernel)
set_option maxRecDepth 20000 in
theorem ok_M_piece : mOK mprog q_M_piece := mOK_of 8 (Tb_at 963 rfl rfl) (Tb_at 61 rfl rfl) (by decide +kernel) (by decide +kernel) (by decide) rfl (by decide +kernel)
set_option maxRecDepth 20000 in
theorem ok_M_root : mOK mprog q_M_root := mOK_of 8 (Tb_at 967 rfl rfl) (Tb_at 61 rfl rfl) (by decide +kernel) (by decide +kernel) (by decide) rfl (by decide +kernel)
set_option maxRecDepth 20000 in
theorem ok_M_kin : mOK mprog q_M_kin := mOK_of 8 (Tb_at 971 rfl rfl) (Tb_at 61 rfl rfl) (by decide +kernel) (by decide +kernel) (by decide) rfl (by decide +kernel)
set_option maxRecDepth 20000 in
theorem ok_M_open : mOK mprog q_M_open := mOK_of 8 (Tb_at 979 rfl rfl) (Tb_at 61 rfl rfl) (by decide +kernel) (by decide +kernel) (by decide) rfl (by decide +kernel)
set_option maxRecDepth 20000 in
theorem ok_M_bar : mOK mprog q_M_bar := mOK_of 8 (Tb_at 975 rfl rfl) (Tb_at 61 rfl rfl) (by decide +kernel) (by decide +kernel) (by decide) rfl (by decide +kernel)
set_option maxRecDepth 20000 in
theorem ok_M_lasting : mOK mprog q_M_lasting := mOK_of 8 (Tb_at 987 rfl rfl) (Tb_at 61 rfl rfl) (by decide +kernel) (by decide +kernel) (by decide) rfl (by decide +kernel)
set_option maxRecDepth 20000 in
theorem ok_M_longer : mOK mprog q_M_longer := mOK_of 8 (Tb_at 991 rfl rfl) (Tb_at 61 rfl rfl) (by decide +kernel) (by decide +kernel) (by decide) rfl (by decide +kernel)
set_option maxRecDepth 20000 in
theorem ok_M_longest : mOK mprog q_M_longest := mOK_of 8 (Tb_at 999 rfl rfl) (Tb_at 61 rfl rfl) (by decide +kernel) (by decide +kernel) (by decide) rfl (by decide +kernel)
set_option maxRecDepth 20000 in
theorem ok_M_steadiest : mOK mprog q_M_steadiest := mOK_of 8 (Tb_at 995 rfl rfl) (Tb_at 61 rfl rfl) (by decide +kernel) (by decide +kernel) (by decide) rfl (by decide +kernel)
set_option maxRecDepth 20000 in
theorem ok_M_keep : mOK mprog q_M_keep := mOK_of 8 (Tb_at 1003 rfl rfl) (Tb_at 61 rfl rfl) (by decide +kernel) (by decide +kernel) (by decide) rfl (by decide +kernel)
set_option maxRecDepth 20000 in
theorem ok_M_turnsOver : mOK mprog q_M_turnsOver := mOK_of 8 (Tb_at 1011 rfl rfl) (Tb_at 61 rfl rfl) (by decide +kernel) (by decide +kernel) (by decide) rfl (by decide +kernel)
set_option maxRecDepth 20000 in
theorem ok_M_other : mOK mprog q_M_other := mOK_of 8 (Tb_at 1007 rfl rfl) (Tb_at 61 rfl rfl) (by decide +kernel) (by decide +kernel) (by decide) rfl (by decide +kernel)
set_option maxRecDepth 20000 in
theorem ok_M_back : mOK mprog q_M_back := mOK_of 8 (Tb_at 1015 rfl rfl) (Tb_at 61 rfl rfl) (by decide +kernel) (by decide +kernel) (by decide) rfl (by decide +kernel)
set_option maxRecDepth 20000 in
theorem ok_M_count : mOK mprog q_M_count := mOK_of 8 (Tb_at 1019 rfl rfl) (Tb_at 61 rfl rfl) (by decide +kernel) (by decide +kernel) (by decide) rfl (by decide +kernel)
set_option maxRecDepth 20000 in
theorem ok_Int_compare : mOK mprog q_Int_compare := mOK_of 9 (Tb_at 431 rfl rfl) (Tb_at 60 rfl rfl) (by decide +kernel) (by decide +kernel) (by decide) rfl (by decide +kernel)
set_option maxRecDepth 20000 in
theorem ok_Int_numberOfTrailingZeros : mOK mprog q_Int_numberOfTrailingZeros := mOK_of 9 (Tb_at 389 rfl rfl) (Tb_at 60 rfl rfl) (by decide +kernel) (by decide +kernel) (by decide) rfl (by decide +kernel)
set_option maxRecDepth 20000 in
theorem ok_Int_bitCount : mOK mprog q_Int_bitCount := mOK_of 9 (Tb_at 577 rfl rfl) (Tb_at 60 rfl rfl) (by decide +kernel) (by decide +kernel) (by decide) rfl (by decide +kernel)
set_option maxRecDepth 20000 in
theorem ok_Arr_fill : mOK mprog q_Arr_fill := mOK_of 11 (Tb_at 252 rfl rfl) (Tb_at 59 rfl rfl) (by decide +kernel) (by decide +kernel) (by decide) rfl (by decide +kernel)
theorem mprog_ok : POK mprog := List.forall_mem_cons.mpr ⟨ok_Bars_empty, List.forall_mem_cons.mpr ⟨ok_Bars_size, List.forall_mem_cons.mpr ⟨ok_Bars_open, List.forall_mem_cons.mpr ⟨ok_Bars_add, List.forall_mem_cons.mpr ⟨ok_Bars_beginOf, List.forall_mem_cons.mpr ⟨ok_Bars_endOf, List.forall_mem_cons.mpr ⟨ok_Bars_lengthOf, List.forall_mem_cons.mpr ⟨ok_Bars_longest, List.forall_mem_cons.mpr ⟨ok_Bars_atLeast, List.forall_mem_cons.mpr ⟨ok_Bars_spanning, List.forall_mem_cons.mpr ⟨ok_Bars_withoutPartnerIn, List.forall_mem_cons.mpr ⟨ok_Bars_lastOf, List.forall_mem_cons.mpr ⟨ok_Bars_compare, List.forall_mem_cons.mpr ⟨ok_Kin_empty, List.forall_mem_cons.mpr ⟨ok_Kin_rootOf, List.forall_mem_cons.mpr ⟨ok_Kin_sinceOf, List.forall_mem_cons.mpr ⟨ok_Kin_come, List.forall_mem_cons.mpr ⟨ok_Kin_go, List.forall_mem_cons.mpr ⟨ok_Kin_part, List.forall_mem_cons.mpr ⟨ok_Kin_beginOfGoing, List.forall_mem_cons.mpr ⟨ok_Kin_beginOfJoining, List.forall_mem_cons.mpr ⟨ok_Kin_join, List.forall_mem_cons.mpr ⟨ok_Kin_lowerRoots, List.forall_mem_cons.mpr ⟨ok_Kin_setSinceOfAll, List.forall_mem_cons.mpr ⟨ok_Kin_setSince, List.forall_mem_cons.mpr ⟨ok_Net_empty, List.forall_mem_cons.mpr ⟨ok_Net_points, List.forall_mem_cons.mpr ⟨ok_Net_edges, List.forall_mem_cons.mpr ⟨ok_Net_has, List.forall_mem_cons.mpr ⟨ok_Net_joined, List.forall_mem_cons.mpr ⟨ok_Net_canDo, List.forall_mem_cons.mpr ⟨ok_Net_change, List.forall_mem_cons.mpr ⟨ok_Net_pieceOf, List.forall_mem_cons.mpr ⟨ok_Net_pieces, List.forall_mem_cons.mpr ⟨ok_Net_loops, List.forall_mem_cons.mpr ⟨ok_Net_nearOf, List.forall_mem_cons.mpr ⟨ok_Row_size, List.forall_mem_cons.mpr ⟨ok_Row_empty, List.forall_mem_cons.mpr ⟨ok_Row_add, List.forall_mem_cons.mpr ⟨ok_Row_removeLast, List.forall_mem_cons.mpr ⟨ok_Row_actAt, List.forall_mem_cons.mpr ⟨ok_Row_swapWithNext, List.forall_mem_cons.mpr ⟨ok_Row_copy, List.forall_mem_cons.mpr ⟨ok_Shf_size, List.forall_mem_cons.mpr ⟨ok_Shf_empty, List.forall_mem_cons.mpr ⟨ok_Shf_put, List.forall_mem_cons.mpr ⟨ok_Shf_last, List.forall_mem_cons.mpr ⟨ok_Shf_removeLast, List.forall_mem_cons.mpr ⟨ok_Shf_loseOldest, List.forall_mem_cons.mpr ⟨ok_Sto_play, List.forall_mem_cons.mpr ⟨ok_Sto_step, List.forall_mem_cons.mpr ⟨ok_Sto_addOpenBars, List.forall_mem_cons.mpr ⟨ok_Txt_length, List.forall_mem_cons.mpr ⟨ok_Txt_empty, List.forall_mem_cons.mpr ⟨ok_Txt_add, List.forall_mem_cons.mpr ⟨ok_Txt_actAt, List.forall_mem_cons.mpr ⟨ok_Txt_letterAt, List.forall_mem_cons.mpr ⟨ok_Z_write, List.forall_mem_cons.mpr ⟨ok_Z_wipe, List.forall_mem_cons.mpr ⟨ok_Z_fault, List.forall_mem_cons.mpr ⟨ok_Z_lay, List.forall_mem_cons.mpr ⟨ok_Z_act, List.forall_mem_cons.mpr ⟨ok_Z_drop, List.forall_mem_cons.mpr ⟨ok_Z_exchange, List.forall_mem_cons.mpr ⟨ok_Z_backwards, List.forall_mem_cons.mpr ⟨ok_Z_clear, List.forall_mem_cons.mpr ⟨ok_Z_undo, List.forall_mem_cons.mpr ⟨ok_Z_spelt, List.forall_mem_cons.mpr ⟨ok_Z_told, List.forall_mem_cons.mpr ⟨ok_Z_graph, List.forall_mem_cons.mpr ⟨ok_Z_piece, List.forall_mem_cons.mpr ⟨ok_Z_root, List.forall_mem_cons.mpr ⟨ok_Z_kin, List.forall_mem_cons.mpr ⟨ok_Z_bar, List.forall_mem_cons.mpr ⟨ok_Z_lasting, List.forall_mem_cons.mpr ⟨ok_Z_longer, List.forall_mem_cons.mpr ⟨ok_Z_steadiest, List.forall_mem_cons.mpr ⟨ok_Z_keep, List.forall_mem_cons.mpr ⟨ok_Z_other, List.forall_mem_cons.mpr ⟨ok_Z_back, List.forall_mem_cons.mpr ⟨ok_Z_count, List.forall_mem_cons.mpr ⟨ok_Z_readText, List.forall_mem_cons.mpr ⟨ok_Z_layTrial, List.forall_mem_cons.mpr ⟨ok_Z_tellAnew, List.forall_mem_cons.mpr ⟨ok_Z_tryExchange, List.forall_mem_cons.mpr ⟨ok_Z_addEdgesGoing, List.forall_mem_cons.mpr ⟨ok_Z_addPointsGoing, List.forall_mem_cons.mpr ⟨ok_Z_actOf, List.forall_mem_cons.mpr ⟨ok_Z_kindOf, List.forall_mem_cons.mpr ⟨ok_Z_lowOf, List.forall_mem_cons.mpr ⟨ok_Z_highOf, List.forall_mem_cons.mpr ⟨ok_Z_otherWay, List.forall_mem_cons.mpr ⟨ok_Z_isKind, List.forall_mem_cons.mpr ⟨ok_Z_isOfEdge, List.forall_mem_cons.mpr ⟨ok_Z_itemLength, List.forall_mem_cons.mpr ⟨ok_Z_kindOfLetter, List.forall_mem_cons.mpr ⟨ok_Z_letterOfKind, List.forall_mem_cons.mpr ⟨ok_Z_letterOf, List.forall_mem_cons.mpr ⟨ok_Z_isPoint, List.forall_mem_cons.mpr ⟨ok_Z_isIn, List.forall_mem_cons.mpr ⟨ok_Z_lowestOf, List.forall_mem_cons.mpr ⟨ok_M_in, List.forall_mem_cons.mpr ⟨ok_M_codeOf, List.forall_mem_cons.mpr ⟨ok_M_kindOf, List.forall_mem_cons.mpr ⟨ok_M_oneOf, List.forall_mem_cons.mpr ⟨ok_M_otherOf, List.forall_mem_cons.mpr ⟨ok_M_has, List.forall_mem_cons.mpr ⟨ok_M_may, List.forall_mem_cons.mpr ⟨ok_M_reach, List.forall_mem_cons.mpr ⟨ok_M_freePiece, List.forall_mem_cons.mpr ⟨ok_M_kinOf, List.forall_mem_cons.mpr ⟨ok_M_makesKin, List.forall_mem_cons.mpr ⟨ok_M_ends, List.forall_mem_cons.mpr ⟨ok_M_goes, List.forall_mem_cons.mpr ⟨ok_M_comes, List.forall_mem_cons.mpr ⟨ok_M_parts, List.forall_mem_cons.mpr ⟨ok_M_bindsNear, List.forall_mem_cons.mpr ⟨ok_M_joins, List.forall_mem_cons.mpr ⟨ok_M_does, List.forall_mem_cons.mpr ⟨ok_M_begins, List.forall_mem_cons.mpr ⟨ok_M_runs, List.forall_mem_cons.mpr ⟨ok_M_lowestOf, List.forall_mem_cons.mpr ⟨ok_M_runsAll, List.forall_mem_cons.mpr ⟨ok_M_lengthOf, List.forall_mem_cons.mpr ⟨ok_M_bits, List.forall_mem_cons.mpr ⟨ok_M_edges, List.forall_mem_cons.mpr ⟨ok_M_write, List.forall_mem_cons.mpr ⟨ok_M_wipe, List.forall_mem_cons.mpr ⟨ok_M_figureAt, List.forall_mem_cons.mpr ⟨ok_M_item, List.forall_mem_cons.mpr ⟨ok_M_reads, List.forall_mem_cons.mpr ⟨ok_M_fault, List.forall_mem_cons.mpr ⟨ok_M_lay, List.forall_mem_cons.mpr ⟨ok_M_notes, List.forall_mem_cons.mpr ⟨ok_M_act, List.forall_mem_cons.mpr ⟨ok_M_drop, List.forall_mem_cons.mpr ⟨ok_M_sets, List.forall_mem_cons.mpr ⟨ok_M_others, List.forall_mem_cons.mpr ⟨ok_M_swaps, List.forall_mem_cons.mpr ⟨ok_M_exchange, List.forall_mem_cons.mpr ⟨ok_M_backwards, List.forall_mem_cons.mpr ⟨ok_M_clear, List.forall_mem_cons.mpr ⟨ok_M_undo, List.forall_mem_cons.mpr ⟨ok_M_letterOf, List.forall_mem_cons.mpr ⟨ok_M_spelt, List.forall_mem_cons.mpr ⟨ok_M_told, List.forall_mem_cons.mpr ⟨ok_M_graph, List.forall_mem_cons.mpr ⟨ok_M_piece, List.forall_mem_cons.mpr ⟨ok_M_root, List.forall_mem_cons.mpr ⟨ok_M_kin, List.forall_mem_cons.mpr ⟨ok_M_open, List.forall_mem_cons.mpr ⟨ok_M_bar, List.forall_mem_cons.mpr ⟨ok_M_lasting, List.forall_mem_cons.mpr ⟨ok_M_longer, List.forall_mem_cons.mpr ⟨ok_M_longest, List.forall_mem_cons.mpr ⟨ok_M_steadiest, List.forall_mem_cons.mpr ⟨ok_M_keep, List.forall_mem_cons.mpr ⟨ok_M_turnsOver, List.forall_mem_cons.mpr ⟨ok_M_other, List.forall_mem_cons.mpr ⟨ok_M_back, List.forall_mem_cons.mpr ⟨ok_M_count, List.forall_mem_cons.mpr ⟨ok_Int_compare, List.forall_mem_cons.mpr ⟨ok_Int_numberOfTrailingZeros, List.forall_mem_cons.mpr ⟨ok_Int_bitCount, List.forall_mem_cons.mpr ⟨ok_Arr_fill, fun _ h => absurd h List.not_mem_nil⟩⟩⟩⟩⟩⟩⟩⟩⟩⟩⟩⟩⟩⟩⟩⟩⟩⟩⟩⟩⟩⟩⟩⟩⟩⟩⟩⟩⟩⟩⟩⟩⟩⟩⟩⟩⟩⟩⟩⟩⟩⟩⟩⟩⟩⟩⟩⟩⟩⟩⟩⟩⟩⟩⟩⟩⟩⟩⟩⟩⟩⟩⟩⟩⟩⟩⟩⟩⟩⟩⟩⟩⟩⟩⟩⟩⟩⟩⟩⟩⟩⟩⟩⟩⟩⟩⟩⟩⟩⟩⟩⟩⟩⟩⟩⟩⟩⟩⟩⟩⟩⟩⟩⟩⟩⟩⟩⟩⟩⟩⟩⟩⟩⟩⟩⟩⟩⟩⟩⟩⟩⟩⟩⟩⟩⟩⟩⟩⟩⟩⟩⟩⟩⟩⟩⟩⟩⟩⟩⟩⟩⟩⟩⟩⟩⟩⟩⟩⟩⟩⟩⟩⟩⟩⟩⟩⟩⟩⟩⟩⟩⟩⟩⟩⟩
