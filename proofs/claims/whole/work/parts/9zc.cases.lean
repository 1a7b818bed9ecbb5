/-! THE LAW's cases (printed by wip/gen/genL.py) -/
abbrev loL (ad : Nat → Nat) (b i : Nat) : List (Option Value) := [some (.ref b), some (.ref (ad 0)), some (.ref (ad 54)), some (.int (nI i))]
theorem ml_X11_feed : Mk R_law 13 mX11_feed 5 := ⟨lw_in (i := 464) (by decide +kernel) (by decide +kernel), lw_in (i := 1) (by decide +kernel) (by decide +kernel), lw_in (i := 467) (by decide +kernel) (by decide +kernel), by decide +kernel⟩
theorem vl_X11_feed : MkV mX11_feed := ⟨lw_in (i := 465) (by decide +kernel) (by decide +kernel), lw_in (i := 466) (by decide +kernel) (by decide +kernel)⟩
theorem rl_X11_feed : RmL mX11_feed := ⟨by decide, by decide⟩
theorem ml_X13_feed : Mk R_law 17 mX13_feed 5 := ⟨lw_in (i := 1076) (by decide +kernel) (by decide +kernel), lw_in (i := 14) (by decide +kernel) (by decide +kernel), lw_in (i := 1079) (by decide +kernel) (by decide +kernel), by decide +kernel⟩
theorem vl_X13_feed : MkV mX13_feed := ⟨lw_in (i := 1077) (by decide +kernel) (by decide +kernel), lw_in (i := 1078) (by decide +kernel) (by decide +kernel)⟩
theorem rl_X13_feed : RmL mX13_feed := ⟨by decide, by decide⟩
theorem ml_X11_end : Mk R_law 18 mX11_end 1 := ⟨lw_in (i := 472) (by decide +kernel) (by decide +kernel), lw_in (i := 1) (by decide +kernel) (by decide +kernel), lw_in (i := 475) (by decide +kernel) (by decide +kernel), by decide +kernel⟩
theorem vl_X11_end : MkV mX11_end := ⟨lw_in (i := 473) (by decide +kernel) (by decide +kernel), lw_in (i := 474) (by decide +kernel) (by decide +kernel)⟩
theorem rl_X11_end : RmL mX11_end := ⟨by decide, by decide⟩
theorem ml_X13_end : Mk R_law 22 mX13_end 1 := ⟨lw_in (i := 1085) (by decide +kernel) (by decide +kernel), lw_in (i := 14) (by decide +kernel) (by decide +kernel), lw_in (i := 1088) (by decide +kernel) (by decide +kernel), by decide +kernel⟩
theorem vl_X13_end : MkV mX13_end := ⟨lw_in (i := 1086) (by decide +kernel) (by decide +kernel), lw_in (i := 1087) (by decide +kernel) (by decide +kernel)⟩
theorem rl_X13_end : RmL mX13_end := ⟨by decide, by decide⟩
theorem ml_X11_score : Mk R_law 23 mX11_score 0 := ⟨lw_in (i := 476) (by decide +kernel) (by decide +kernel), lw_in (i := 1) (by decide +kernel) (by decide +kernel), lw_in (i := 479) (by decide +kernel) (by decide +kernel), by decide +kernel⟩
theorem vl_X11_score : MkV mX11_score := ⟨lw_in (i := 477) (by decide +kernel) (by decide +kernel), lw_in (i := 478) (by decide +kernel) (by decide +kernel)⟩
theorem rl_X11_score : RmL mX11_score := ⟨by decide, by decide⟩
theorem ml_X13_score : MkH R_law 27 mX13_score 0 := ⟨lw_in (i := 1356) (by decide +kernel) (by decide +kernel), lw_in (i := 14) (by decide +kernel) (by decide +kernel), lw_in (i := 1359) (by decide +kernel) (by decide +kernel), by decide +kernel⟩
theorem vl_X13_score : MkV mX13_score := ⟨lw_in (i := 1357) (by decide +kernel) (by decide +kernel), lw_in (i := 1358) (by decide +kernel) (by decide +kernel)⟩
theorem rl_X13_score : RmL mX13_score := ⟨by decide, by decide⟩
theorem ml_X11_manners : Mk R_law 28 mX11_manners 0 := ⟨lw_in (i := 646) (by decide +kernel) (by decide +kernel), lw_in (i := 1) (by decide +kernel) (by decide +kernel), lw_in (i := 649) (by decide +kernel) (by decide +kernel), by decide +kernel⟩
theorem vl_X11_manners : MkV mX11_manners := ⟨lw_in (i := 647) (by decide +kernel) (by decide +kernel), lw_in (i := 648) (by decide +kernel) (by decide +kernel)⟩
theorem rl_X11_manners : RmL mX11_manners := ⟨by decide, by decide⟩
theorem ml_X13_manners : MkH R_law 31 mX13_manners 0 := ⟨lw_in (i := 1412) (by decide +kernel) (by decide +kernel), lw_in (i := 14) (by decide +kernel) (by decide +kernel), lw_in (i := 1415) (by decide +kernel) (by decide +kernel), by decide +kernel⟩
theorem vl_X13_manners : MkV mX13_manners := ⟨lw_in (i := 1413) (by decide +kernel) (by decide +kernel), lw_in (i := 1414) (by decide +kernel) (by decide +kernel)⟩
theorem rl_X13_manners : RmL mX13_manners := ⟨by decide, by decide⟩
theorem ml_X11_fault : Mk R_law 32 mX11_fault 1 := ⟨lw_in (i := 685) (by decide +kernel) (by decide +kernel), lw_in (i := 1) (by decide +kernel) (by decide +kernel), lw_in (i := 688) (by decide +kernel) (by decide +kernel), by decide +kernel⟩
theorem vl_X11_fault : MkV mX11_fault := ⟨lw_in (i := 686) (by decide +kernel) (by decide +kernel), lw_in (i := 687) (by decide +kernel) (by decide +kernel)⟩
theorem rl_X11_fault : RmL mX11_fault := ⟨by decide, by decide⟩
theorem ml_X13_fault : Mk R_law 35 mX13_fault 1 := ⟨lw_in (i := 1427) (by decide +kernel) (by decide +kernel), lw_in (i := 14) (by decide +kernel) (by decide +kernel), lw_in (i := 1430) (by decide +kernel) (by decide +kernel), by decide +kernel⟩
theorem vl_X13_fault : MkV mX13_fault := ⟨lw_in (i := 1428) (by decide +kernel) (by decide +kernel), lw_in (i := 1429) (by decide +kernel) (by decide +kernel)⟩
theorem rl_X13_fault : RmL mX13_fault := ⟨by decide, by decide⟩
theorem ml_X11_rule : Mk R_law 36 mX11_rule 1 := ⟨lw_in (i := 689) (by decide +kernel) (by decide +kernel), lw_in (i := 1) (by decide +kernel) (by decide +kernel), lw_in (i := 692) (by decide +kernel) (by decide +kernel), by decide +kernel⟩
theorem vl_X11_rule : MkV mX11_rule := ⟨lw_in (i := 690) (by decide +kernel) (by decide +kernel), lw_in (i := 691) (by decide +kernel) (by decide +kernel)⟩
theorem rl_X11_rule : RmL mX11_rule := ⟨by decide, by decide⟩
theorem ml_X13_rule : Mk R_law 39 mX13_rule 1 := ⟨lw_in (i := 1431) (by decide +kernel) (by decide +kernel), lw_in (i := 14) (by decide +kernel) (by decide +kernel), lw_in (i := 1434) (by decide +kernel) (by decide +kernel), by decide +kernel⟩
theorem vl_X13_rule : MkV mX13_rule := ⟨lw_in (i := 1432) (by decide +kernel) (by decide +kernel), lw_in (i := 1433) (by decide +kernel) (by decide +kernel)⟩
theorem rl_X13_rule : RmL mX13_rule := ⟨by decide, by decide⟩
theorem ml_X11_stroke : Mk R_law 40 mX11_stroke 2 := ⟨lw_in (i := 693) (by decide +kernel) (by decide +kernel), lw_in (i := 1) (by decide +kernel) (by decide +kernel), lw_in (i := 696) (by decide +kernel) (by decide +kernel), by decide +kernel⟩
theorem vl_X11_stroke : MkV mX11_stroke := ⟨lw_in (i := 694) (by decide +kernel) (by decide +kernel), lw_in (i := 695) (by decide +kernel) (by decide +kernel)⟩
theorem rl_X11_stroke : RmL mX11_stroke := ⟨by decide, by decide⟩
theorem ml_X13_stroke : Mk R_law 44 mX13_stroke 2 := ⟨lw_in (i := 1436) (by decide +kernel) (by decide +kernel), lw_in (i := 14) (by decide +kernel) (by decide +kernel), lw_in (i := 1439) (by decide +kernel) (by decide +kernel), by decide +kernel⟩
theorem vl_X13_stroke : MkV mX13_stroke := ⟨lw_in (i := 1437) (by decide +kernel) (by decide +kernel), lw_in (i := 1438) (by decide +kernel) (by decide +kernel)⟩
theorem rl_X13_stroke : RmL mX13_stroke := ⟨by decide, by decide⟩
theorem ml_X11_ringers : Mk R_law 45 mX11_ringers 1 := ⟨lw_in (i := 701) (by decide +kernel) (by decide +kernel), lw_in (i := 1) (by decide +kernel) (by decide +kernel), lw_in (i := 704) (by decide +kernel) (by decide +kernel), by decide +kernel⟩
theorem vl_X11_ringers : MkV mX11_ringers := ⟨lw_in (i := 702) (by decide +kernel) (by decide +kernel), lw_in (i := 703) (by decide +kernel) (by decide +kernel)⟩
theorem rl_X11_ringers : RmL mX11_ringers := ⟨by decide, by decide⟩
theorem ml_X13_ringers : Mk R_law 48 mX13_ringers 1 := ⟨lw_in (i := 1449) (by decide +kernel) (by decide +kernel), lw_in (i := 14) (by decide +kernel) (by decide +kernel), lw_in (i := 1452) (by decide +kernel) (by decide +kernel), by decide +kernel⟩
theorem vl_X13_ringers : MkV mX13_ringers := ⟨lw_in (i := 1450) (by decide +kernel) (by decide +kernel), lw_in (i := 1451) (by decide +kernel) (by decide +kernel)⟩
theorem rl_X13_ringers : RmL mX13_ringers := ⟨by decide, by decide⟩
theorem ml_X11_absent : Mk R_law 49 mX11_absent 2 := ⟨lw_in (i := 709) (by decide +kernel) (by decide +kernel), lw_in (i := 1) (by decide +kernel) (by decide +kernel), lw_in (i := 712) (by decide +kernel) (by decide +kernel), by decide +kernel⟩
theorem vl_X11_absent : MkV mX11_absent := ⟨lw_in (i := 710) (by decide +kernel) (by decide +kernel), lw_in (i := 711) (by decide +kernel) (by decide +kernel)⟩
theorem rl_X11_absent : RmL mX11_absent := ⟨by decide, by decide⟩
theorem ml_X13_absent : Mk R_law 53 mX13_absent 2 := ⟨lw_in (i := 1454) (by decide +kernel) (by decide +kernel), lw_in (i := 14) (by decide +kernel) (by decide +kernel), lw_in (i := 1457) (by decide +kernel) (by decide +kernel), by decide +kernel⟩
theorem vl_X13_absent : MkV mX13_absent := ⟨lw_in (i := 1455) (by decide +kernel) (by decide +kernel), lw_in (i := 1456) (by decide +kernel) (by decide +kernel)⟩
theorem rl_X13_absent : RmL mX13_absent := ⟨by decide, by decide⟩
theorem ml_X11_hands : Mk R_law 56 mX11_hands 1 := ⟨lw_in (i := 717) (by decide +kernel) (by decide +kernel), lw_in (i := 1) (by decide +kernel) (by decide +kernel), lw_in (i := 720) (by decide +kernel) (by decide +kernel), by decide +kernel⟩
theorem vl_X11_hands : MkV mX11_hands := ⟨lw_in (i := 718) (by decide +kernel) (by decide +kernel), lw_in (i := 719) (by decide +kernel) (by decide +kernel)⟩
theorem rl_X11_hands : RmL mX11_hands := ⟨by decide, by decide⟩
theorem ml_X13_hands : Mk R_law 60 mX13_hands 1 := ⟨lw_in (i := 1462) (by decide +kernel) (by decide +kernel), lw_in (i := 14) (by decide +kernel) (by decide +kernel), lw_in (i := 1465) (by decide +kernel) (by decide +kernel), by decide +kernel⟩
theorem vl_X13_hands : MkV mX13_hands := ⟨lw_in (i := 1463) (by decide +kernel) (by decide +kernel), lw_in (i := 1464) (by decide +kernel) (by decide +kernel)⟩
theorem rl_X13_hands : RmL mX13_hands := ⟨by decide, by decide⟩
theorem ml_X11_hand : Mk R_law 61 mX11_hand 1 := ⟨lw_in (i := 782) (by decide +kernel) (by decide +kernel), lw_in (i := 1) (by decide +kernel) (by decide +kernel), lw_in (i := 785) (by decide +kernel) (by decide +kernel), by decide +kernel⟩
theorem vl_X11_hand : MkV mX11_hand := ⟨lw_in (i := 783) (by decide +kernel) (by decide +kernel), lw_in (i := 784) (by decide +kernel) (by decide +kernel)⟩
theorem rl_X11_hand : RmL mX11_hand := ⟨by decide, by decide⟩
theorem ml_X13_hand : Mk R_law 64 mX13_hand 1 := ⟨lw_in (i := 1498) (by decide +kernel) (by decide +kernel), lw_in (i := 14) (by decide +kernel) (by decide +kernel), lw_in (i := 1501) (by decide +kernel) (by decide +kernel), by decide +kernel⟩
theorem vl_X13_hand : MkV mX13_hand := ⟨lw_in (i := 1499) (by decide +kernel) (by decide +kernel), lw_in (i := 1500) (by decide +kernel) (by decide +kernel)⟩
theorem rl_X13_hand : RmL mX13_hand := ⟨by decide, by decide⟩
theorem ml_X11_part : Mk R_law 65 mX11_part 0 := ⟨lw_in (i := 786) (by decide +kernel) (by decide +kernel), lw_in (i := 1) (by decide +kernel) (by decide +kernel), lw_in (i := 789) (by decide +kernel) (by decide +kernel), by decide +kernel⟩
theorem vl_X11_part : MkV mX11_part := ⟨lw_in (i := 787) (by decide +kernel) (by decide +kernel), lw_in (i := 788) (by decide +kernel) (by decide +kernel)⟩
theorem rl_X11_part : RmL mX11_part := ⟨by decide, by decide⟩
theorem ml_X13_part : Mk R_law 68 mX13_part 0 := ⟨lw_in (i := 1502) (by decide +kernel) (by decide +kernel), lw_in (i := 14) (by decide +kernel) (by decide +kernel), lw_in (i := 1505) (by decide +kernel) (by decide +kernel), by decide +kernel⟩
theorem vl_X13_part : MkV mX13_part := ⟨lw_in (i := 1503) (by decide +kernel) (by decide +kernel), lw_in (i := 1504) (by decide +kernel) (by decide +kernel)⟩
theorem rl_X13_part : RmL mX13_part := ⟨by decide, by decide⟩
theorem ml_X11_give : Mk R_law 69 mX11_give 2 := ⟨lw_in (i := 833) (by decide +kernel) (by decide +kernel), lw_in (i := 1) (by decide +kernel) (by decide +kernel), lw_in (i := 836) (by decide +kernel) (by decide +kernel), by decide +kernel⟩
theorem vl_X11_give : MkV mX11_give := ⟨lw_in (i := 834) (by decide +kernel) (by decide +kernel), lw_in (i := 835) (by decide +kernel) (by decide +kernel)⟩
theorem rl_X11_give : RmL mX11_give := ⟨by decide, by decide⟩
theorem ml_X13_give : Mk R_law 72 mX13_give 2 := ⟨lw_in (i := 1549) (by decide +kernel) (by decide +kernel), lw_in (i := 14) (by decide +kernel) (by decide +kernel), lw_in (i := 1552) (by decide +kernel) (by decide +kernel), by decide +kernel⟩
theorem vl_X13_give : MkV mX13_give := ⟨lw_in (i := 1550) (by decide +kernel) (by decide +kernel), lw_in (i := 1551) (by decide +kernel) (by decide +kernel)⟩
theorem rl_X13_give : RmL mX13_give := ⟨by decide, by decide⟩
theorem ml_X11_parted : Mk R_law 73 mX11_parted 1 := ⟨lw_in (i := 838) (by decide +kernel) (by decide +kernel), lw_in (i := 1) (by decide +kernel) (by decide +kernel), lw_in (i := 841) (by decide +kernel) (by decide +kernel), by decide +kernel⟩
theorem vl_X11_parted : MkV mX11_parted := ⟨lw_in (i := 839) (by decide +kernel) (by decide +kernel), lw_in (i := 840) (by decide +kernel) (by decide +kernel)⟩
theorem rl_X11_parted : RmL mX11_parted := ⟨by decide, by decide⟩
theorem ml_X13_parted : Mk R_law 76 mX13_parted 1 := ⟨lw_in (i := 1554) (by decide +kernel) (by decide +kernel), lw_in (i := 14) (by decide +kernel) (by decide +kernel), lw_in (i := 1557) (by decide +kernel) (by decide +kernel), by decide +kernel⟩
theorem vl_X13_parted : MkV mX13_parted := ⟨lw_in (i := 1555) (by decide +kernel) (by decide +kernel), lw_in (i := 1556) (by decide +kernel) (by decide +kernel)⟩
theorem rl_X13_parted : RmL mX13_parted := ⟨by decide, by decide⟩
theorem ml_X11_load : Mk R_law 77 mX11_load 1 := ⟨lw_in (i := 842) (by decide +kernel) (by decide +kernel), lw_in (i := 1) (by decide +kernel) (by decide +kernel), lw_in (i := 845) (by decide +kernel) (by decide +kernel), by decide +kernel⟩
theorem vl_X11_load : MkV mX11_load := ⟨lw_in (i := 843) (by decide +kernel) (by decide +kernel), lw_in (i := 844) (by decide +kernel) (by decide +kernel)⟩
theorem rl_X11_load : RmL mX11_load := ⟨by decide, by decide⟩
theorem ml_X13_load : Mk R_law 80 mX13_load 1 := ⟨lw_in (i := 1558) (by decide +kernel) (by decide +kernel), lw_in (i := 14) (by decide +kernel) (by decide +kernel), lw_in (i := 1561) (by decide +kernel) (by decide +kernel), by decide +kernel⟩
theorem vl_X13_load : MkV mX13_load := ⟨lw_in (i := 1559) (by decide +kernel) (by decide +kernel), lw_in (i := 1560) (by decide +kernel) (by decide +kernel)⟩
theorem rl_X13_load : RmL mX13_load := ⟨by decide, by decide⟩
theorem ml_X11_cover : Mk R_law 81 mX11_cover 1 := ⟨lw_in (i := 851) (by decide +kernel) (by decide +kernel), lw_in (i := 1) (by decide +kernel) (by decide +kernel), lw_in (i := 854) (by decide +kernel) (by decide +kernel), by decide +kernel⟩
theorem vl_X11_cover : MkV mX11_cover := ⟨lw_in (i := 852) (by decide +kernel) (by decide +kernel), lw_in (i := 853) (by decide +kernel) (by decide +kernel)⟩
theorem rl_X11_cover : RmL mX11_cover := ⟨by decide, by decide⟩
theorem ml_X13_cover : Mk R_law 84 mX13_cover 1 := ⟨lw_in (i := 1566) (by decide +kernel) (by decide +kernel), lw_in (i := 14) (by decide +kernel) (by decide +kernel), lw_in (i := 1569) (by decide +kernel) (by decide +kernel), by decide +kernel⟩
theorem vl_X13_cover : MkV mX13_cover := ⟨lw_in (i := 1567) (by decide +kernel) (by decide +kernel), lw_in (i := 1568) (by decide +kernel) (by decide +kernel)⟩
theorem rl_X13_cover : RmL mX13_cover := ⟨by decide, by decide⟩
theorem ml_X11_help : Mk R_law 85 mX11_help 1 := ⟨lw_in (i := 858) (by decide +kernel) (by decide +kernel), lw_in (i := 1) (by decide +kernel) (by decide +kernel), lw_in (i := 861) (by decide +kernel) (by decide +kernel), by decide +kernel⟩
theorem vl_X11_help : MkV mX11_help := ⟨lw_in (i := 859) (by decide +kernel) (by decide +kernel), lw_in (i := 860) (by decide +kernel) (by decide +kernel)⟩
theorem rl_X11_help : RmL mX11_help := ⟨by decide, by decide⟩
theorem ml_X13_help : Mk R_law 88 mX13_help 1 := ⟨lw_in (i := 1570) (by decide +kernel) (by decide +kernel), lw_in (i := 14) (by decide +kernel) (by decide +kernel), lw_in (i := 1573) (by decide +kernel) (by decide +kernel), by decide +kernel⟩
theorem vl_X13_help : MkV mX13_help := ⟨lw_in (i := 1571) (by decide +kernel) (by decide +kernel), lw_in (i := 1572) (by decide +kernel) (by decide +kernel)⟩
theorem rl_X13_help : RmL mX13_help := ⟨by decide, by decide⟩
theorem ml_X11_helped : Mk R_law 89 mX11_helped 1 := ⟨lw_in (i := 911) (by decide +kernel) (by decide +kernel), lw_in (i := 1) (by decide +kernel) (by decide +kernel), lw_in (i := 914) (by decide +kernel) (by decide +kernel), by decide +kernel⟩
theorem vl_X11_helped : MkV mX11_helped := ⟨lw_in (i := 912) (by decide +kernel) (by decide +kernel), lw_in (i := 913) (by decide +kernel) (by decide +kernel)⟩
theorem rl_X11_helped : RmL mX11_helped := ⟨by decide, by decide⟩
theorem ml_X13_helped : Mk R_law 92 mX13_helped 1 := ⟨lw_in (i := 1578) (by decide +kernel) (by decide +kernel), lw_in (i := 14) (by decide +kernel) (by decide +kernel), lw_in (i := 1581) (by decide +kernel) (by decide +kernel), by decide +kernel⟩
theorem vl_X13_helped : MkV mX13_helped := ⟨lw_in (i := 1579) (by decide +kernel) (by decide +kernel), lw_in (i := 1580) (by decide +kernel) (by decide +kernel)⟩
theorem rl_X13_helped : RmL mX13_helped := ⟨by decide, by decide⟩
theorem ml_X11_clashes : Mk R_law 93 mX11_clashes 0 := ⟨lw_in (i := 915) (by decide +kernel) (by decide +kernel), lw_in (i := 1) (by decide +kernel) (by decide +kernel), lw_in (i := 918) (by decide +kernel) (by decide +kernel), by decide +kernel⟩
theorem vl_X11_clashes : MkV mX11_clashes := ⟨lw_in (i := 916) (by decide +kernel) (by decide +kernel), lw_in (i := 917) (by decide +kernel) (by decide +kernel)⟩
theorem rl_X11_clashes : RmL mX11_clashes := ⟨by decide, by decide⟩
theorem ml_X13_clashes : Mk R_law 96 mX13_clashes 0 := ⟨lw_in (i := 1582) (by decide +kernel) (by decide +kernel), lw_in (i := 14) (by decide +kernel) (by decide +kernel), lw_in (i := 1585) (by decide +kernel) (by decide +kernel), by decide +kernel⟩
theorem vl_X13_clashes : MkV mX13_clashes := ⟨lw_in (i := 1583) (by decide +kernel) (by decide +kernel), lw_in (i := 1584) (by decide +kernel) (by decide +kernel)⟩
theorem rl_X13_clashes : RmL mX13_clashes := ⟨by decide, by decide⟩
theorem ml_X11_clash : Mk R_law 97 mX11_clash 2 := ⟨lw_in (i := 930) (by decide +kernel) (by decide +kernel), lw_in (i := 1) (by decide +kernel) (by decide +kernel), lw_in (i := 933) (by decide +kernel) (by decide +kernel), by decide +kernel⟩
theorem vl_X11_clash : MkV mX11_clash := ⟨lw_in (i := 931) (by decide +kernel) (by decide +kernel), lw_in (i := 932) (by decide +kernel) (by decide +kernel)⟩
theorem rl_X11_clash : RmL mX11_clash := ⟨by decide, by decide⟩
theorem ml_X13_clash : Mk R_law 100 mX13_clash 2 := ⟨lw_in (i := 1591) (by decide +kernel) (by decide +kernel), lw_in (i := 14) (by decide +kernel) (by decide +kernel), lw_in (i := 1594) (by decide +kernel) (by decide +kernel), by decide +kernel⟩
theorem vl_X13_clash : MkV mX13_clash := ⟨lw_in (i := 1592) (by decide +kernel) (by decide +kernel), lw_in (i := 1593) (by decide +kernel) (by decide +kernel)⟩
theorem rl_X13_clash : RmL mX13_clash := ⟨by decide, by decide⟩
theorem ml_X11_damp : Mk R_law 101 mX11_damp 0 := ⟨lw_in (i := 939) (by decide +kernel) (by decide +kernel), lw_in (i := 1) (by decide +kernel) (by decide +kernel), lw_in (i := 942) (by decide +kernel) (by decide +kernel), by decide +kernel⟩
theorem vl_X11_damp : MkV mX11_damp := ⟨lw_in (i := 940) (by decide +kernel) (by decide +kernel), lw_in (i := 941) (by decide +kernel) (by decide +kernel)⟩
theorem rl_X11_damp : RmL mX11_damp := ⟨by decide, by decide⟩
theorem ml_X13_damp : Mk R_law 104 mX13_damp 0 := ⟨lw_in (i := 1595) (by decide +kernel) (by decide +kernel), lw_in (i := 14) (by decide +kernel) (by decide +kernel), lw_in (i := 1598) (by decide +kernel) (by decide +kernel), by decide +kernel⟩
theorem vl_X13_damp : MkV mX13_damp := ⟨lw_in (i := 1596) (by decide +kernel) (by decide +kernel), lw_in (i := 1597) (by decide +kernel) (by decide +kernel)⟩
theorem rl_X13_damp : RmL mX13_damp := ⟨by decide, by decide⟩
theorem ml_X11_heard : Mk R_law 105 mX11_heard 0 := ⟨lw_in (i := 952) (by decide +kernel) (by decide +kernel), lw_in (i := 1) (by decide +kernel) (by decide +kernel), lw_in (i := 955) (by decide +kernel) (by decide +kernel), by decide +kernel⟩
theorem vl_X11_heard : MkV mX11_heard := ⟨lw_in (i := 953) (by decide +kernel) (by decide +kernel), lw_in (i := 954) (by decide +kernel) (by decide +kernel)⟩
theorem rl_X11_heard : RmL mX11_heard := ⟨by decide, by decide⟩
theorem ml_X13_heard : MkH R_law 108 mX13_heard 0 := ⟨lw_in (i := 1599) (by decide +kernel) (by decide +kernel), lw_in (i := 14) (by decide +kernel) (by decide +kernel), lw_in (i := 1602) (by decide +kernel) (by decide +kernel), by decide +kernel⟩
theorem vl_X13_heard : MkV mX13_heard := ⟨lw_in (i := 1600) (by decide +kernel) (by decide +kernel), lw_in (i := 1601) (by decide +kernel) (by decide +kernel)⟩
theorem rl_X13_heard : RmL mX13_heard := ⟨by decide, by decide⟩
theorem ml_X11_laid : Mk R_law 109 mX11_laid 2 := ⟨lw_in (i := 984) (by decide +kernel) (by decide +kernel), lw_in (i := 1) (by decide +kernel) (by decide +kernel), lw_in (i := 987) (by decide +kernel) (by decide +kernel), by decide +kernel⟩
theorem vl_X11_laid : MkV mX11_laid := ⟨lw_in (i := 985) (by decide +kernel) (by decide +kernel), lw_in (i := 986) (by decide +kernel) (by decide +kernel)⟩
theorem rl_X11_laid : RmL mX11_laid := ⟨by decide, by decide⟩
theorem ml_X13_laid : Mk R_law 112 mX13_laid 2 := ⟨lw_in (i := 1622) (by decide +kernel) (by decide +kernel), lw_in (i := 14) (by decide +kernel) (by decide +kernel), lw_in (i := 1625) (by decide +kernel) (by decide +kernel), by decide +kernel⟩
theorem vl_X13_laid : MkV mX13_laid := ⟨lw_in (i := 1623) (by decide +kernel) (by decide +kernel), lw_in (i := 1624) (by decide +kernel) (by decide +kernel)⟩
theorem rl_X13_laid : RmL mX13_laid := ⟨by decide, by decide⟩
theorem ml_X11_more : Mk R_law 113 mX11_more 0 := ⟨lw_in (i := 988) (by decide +kernel) (by decide +kernel), lw_in (i := 1) (by decide +kernel) (by decide +kernel), lw_in (i := 991) (by decide +kernel) (by decide +kernel), by decide +kernel⟩
theorem vl_X11_more : MkV mX11_more := ⟨lw_in (i := 989) (by decide +kernel) (by decide +kernel), lw_in (i := 990) (by decide +kernel) (by decide +kernel)⟩
theorem rl_X11_more : RmL mX11_more := ⟨by decide, by decide⟩
theorem ml_X13_more : Mk R_law 116 mX13_more 0 := ⟨lw_in (i := 1627) (by decide +kernel) (by decide +kernel), lw_in (i := 14) (by decide +kernel) (by decide +kernel), lw_in (i := 1630) (by decide +kernel) (by decide +kernel), by decide +kernel⟩
theorem vl_X13_more : MkV mX13_more := ⟨lw_in (i := 1628) (by decide +kernel) (by decide +kernel), lw_in (i := 1629) (by decide +kernel) (by decide +kernel)⟩
theorem rl_X13_more : RmL mX13_more := ⟨by decide, by decide⟩
theorem ml_X11_blame : Mk R_law 117 mX11_blame 1 := ⟨lw_in (i := 992) (by decide +kernel) (by decide +kernel), lw_in (i := 1) (by decide +kernel) (by decide +kernel), lw_in (i := 995) (by decide +kernel) (by decide +kernel), by decide +kernel⟩
theorem vl_X11_blame : MkV mX11_blame := ⟨lw_in (i := 993) (by decide +kernel) (by decide +kernel), lw_in (i := 994) (by decide +kernel) (by decide +kernel)⟩
theorem rl_X11_blame : RmL mX11_blame := ⟨by decide, by decide⟩
theorem ml_X13_blame : Mk R_law 120 mX13_blame 1 := ⟨lw_in (i := 1631) (by decide +kernel) (by decide +kernel), lw_in (i := 14) (by decide +kernel) (by decide +kernel), lw_in (i := 1634) (by decide +kernel) (by decide +kernel), by decide +kernel⟩
theorem vl_X13_blame : MkV mX13_blame := ⟨lw_in (i := 1632) (by decide +kernel) (by decide +kernel), lw_in (i := 1633) (by decide +kernel) (by decide +kernel)⟩
theorem rl_X13_blame : RmL mX13_blame := ⟨by decide, by decide⟩
theorem ml_X11_pass : Mk R_law 121 mX11_pass 1 := ⟨lw_in (i := 1005) (by decide +kernel) (by decide +kernel), lw_in (i := 1) (by decide +kernel) (by decide +kernel), lw_in (i := 1008) (by decide +kernel) (by decide +kernel), by decide +kernel⟩
theorem vl_X11_pass : MkV mX11_pass := ⟨lw_in (i := 1006) (by decide +kernel) (by decide +kernel), lw_in (i := 1007) (by decide +kernel) (by decide +kernel)⟩
theorem rl_X11_pass : RmL mX11_pass := ⟨by decide, by decide⟩
theorem ml_X13_pass : Mk R_law 124 mX13_pass 1 := ⟨lw_in (i := 1635) (by decide +kernel) (by decide +kernel), lw_in (i := 14) (by decide +kernel) (by decide +kernel), lw_in (i := 1638) (by decide +kernel) (by decide +kernel), by decide +kernel⟩
theorem vl_X13_pass : MkV mX13_pass := ⟨lw_in (i := 1636) (by decide +kernel) (by decide +kernel), lw_in (i := 1637) (by decide +kernel) (by decide +kernel)⟩
theorem rl_X13_pass : RmL mX13_pass := ⟨by decide, by decide⟩
theorem ml_X11_away : Mk R_law 125 mX11_away 3 := ⟨lw_in (i := 1012) (by decide +kernel) (by decide +kernel), lw_in (i := 1) (by decide +kernel) (by decide +kernel), lw_in (i := 1015) (by decide +kernel) (by decide +kernel), by decide +kernel⟩
theorem vl_X11_away : MkV mX11_away := ⟨lw_in (i := 1013) (by decide +kernel) (by decide +kernel), lw_in (i := 1014) (by decide +kernel) (by decide +kernel)⟩
theorem rl_X11_away : RmL mX11_away := ⟨by decide, by decide⟩
theorem ml_X13_away : Mk R_law 129 mX13_away 3 := ⟨lw_in (i := 1640) (by decide +kernel) (by decide +kernel), lw_in (i := 14) (by decide +kernel) (by decide +kernel), lw_in (i := 1643) (by decide +kernel) (by decide +kernel), by decide +kernel⟩
theorem vl_X13_away : MkV mX13_away := ⟨lw_in (i := 1641) (by decide +kernel) (by decide +kernel), lw_in (i := 1642) (by decide +kernel) (by decide +kernel)⟩
theorem rl_X13_away : RmL mX13_away := ⟨by decide, by decide⟩
theorem ml_X11_back : Mk R_law 130 mX11_back 2 := ⟨lw_in (i := 1021) (by decide +kernel) (by decide +kernel), lw_in (i := 1) (by decide +kernel) (by decide +kernel), lw_in (i := 1024) (by decide +kernel) (by decide +kernel), by decide +kernel⟩
theorem vl_X11_back : MkV mX11_back := ⟨lw_in (i := 1022) (by decide +kernel) (by decide +kernel), lw_in (i := 1023) (by decide +kernel) (by decide +kernel)⟩
theorem rl_X11_back : RmL mX11_back := ⟨by decide, by decide⟩
theorem ml_X13_back : Mk R_law 133 mX13_back 2 := ⟨lw_in (i := 1648) (by decide +kernel) (by decide +kernel), lw_in (i := 14) (by decide +kernel) (by decide +kernel), lw_in (i := 1651) (by decide +kernel) (by decide +kernel), by decide +kernel⟩
theorem vl_X13_back : MkV mX13_back := ⟨lw_in (i := 1649) (by decide +kernel) (by decide +kernel), lw_in (i := 1650) (by decide +kernel) (by decide +kernel)⟩
theorem rl_X13_back : RmL mX13_back := ⟨by decide, by decide⟩
theorem ml_X11_there : Mk R_law 134 mX11_there 3 := ⟨lw_in (i := 1029) (by decide +kernel) (by decide +kernel), lw_in (i := 1) (by decide +kernel) (by decide +kernel), lw_in (i := 1032) (by decide +kernel) (by decide +kernel), by decide +kernel⟩
theorem vl_X11_there : MkV mX11_there := ⟨lw_in (i := 1030) (by decide +kernel) (by decide +kernel), lw_in (i := 1031) (by decide +kernel) (by decide +kernel)⟩
theorem rl_X11_there : RmL mX11_there := ⟨by decide, by decide⟩
theorem ml_X13_there : Mk R_law 137 mX13_there 3 := ⟨lw_in (i := 1652) (by decide +kernel) (by decide +kernel), lw_in (i := 14) (by decide +kernel) (by decide +kernel), lw_in (i := 1655) (by decide +kernel) (by decide +kernel), by decide +kernel⟩
theorem vl_X13_there : MkV mX13_there := ⟨lw_in (i := 1653) (by decide +kernel) (by decide +kernel), lw_in (i := 1654) (by decide +kernel) (by decide +kernel)⟩
theorem rl_X13_there : RmL mX13_there := ⟨by decide, by decide⟩
theorem ml_X11_key : Mk R_law 138 mX11_key 2 := ⟨lw_in (i := 1041) (by decide +kernel) (by decide +kernel), lw_in (i := 1) (by decide +kernel) (by decide +kernel), lw_in (i := 1044) (by decide +kernel) (by decide +kernel), by decide +kernel⟩
theorem vl_X11_key : MkV mX11_key := ⟨lw_in (i := 1042) (by decide +kernel) (by decide +kernel), lw_in (i := 1043) (by decide +kernel) (by decide +kernel)⟩
theorem rl_X11_key : RmL mX11_key := ⟨by decide, by decide⟩
theorem ml_X13_key : Mk R_law 141 mX13_key 2 := ⟨lw_in (i := 1660) (by decide +kernel) (by decide +kernel), lw_in (i := 14) (by decide +kernel) (by decide +kernel), lw_in (i := 1663) (by decide +kernel) (by decide +kernel), by decide +kernel⟩
theorem vl_X13_key : MkV mX13_key := ⟨lw_in (i := 1661) (by decide +kernel) (by decide +kernel), lw_in (i := 1662) (by decide +kernel) (by decide +kernel)⟩
theorem rl_X13_key : RmL mX13_key := ⟨by decide, by decide⟩
theorem ml_X11_keyed : Mk R_law 142 mX11_keyed 1 := ⟨lw_in (i := 1060) (by decide +kernel) (by decide +kernel), lw_in (i := 1) (by decide +kernel) (by decide +kernel), lw_in (i := 1063) (by decide +kernel) (by decide +kernel), by decide +kernel⟩
theorem vl_X11_keyed : MkV mX11_keyed := ⟨lw_in (i := 1061) (by decide +kernel) (by decide +kernel), lw_in (i := 1062) (by decide +kernel) (by decide +kernel)⟩
theorem rl_X11_keyed : RmL mX11_keyed := ⟨by decide, by decide⟩
theorem ml_X13_keyed : Mk R_law 145 mX13_keyed 1 := ⟨lw_in (i := 1664) (by decide +kernel) (by decide +kernel), lw_in (i := 14) (by decide +kernel) (by decide +kernel), lw_in (i := 1667) (by decide +kernel) (by decide +kernel), by decide +kernel⟩
theorem vl_X13_keyed : MkV mX13_keyed := ⟨lw_in (i := 1665) (by decide +kernel) (by decide +kernel), lw_in (i := 1666) (by decide +kernel) (by decide +kernel)⟩
theorem rl_X13_keyed : RmL mX13_keyed := ⟨by decide, by decide⟩
theorem ml_X11_count : Mk R_law 146 mX11_count 1 := ⟨lw_in (i := 1064) (by decide +kernel) (by decide +kernel), lw_in (i := 1) (by decide +kernel) (by decide +kernel), lw_in (i := 1067) (by decide +kernel) (by decide +kernel), by decide +kernel⟩
theorem vl_X11_count : MkV mX11_count := ⟨lw_in (i := 1065) (by decide +kernel) (by decide +kernel), lw_in (i := 1066) (by decide +kernel) (by decide +kernel)⟩
theorem rl_X11_count : RmL mX11_count := ⟨by decide, by decide⟩
theorem ml_X13_count : Mk R_law 149 mX13_count 1 := ⟨lw_in (i := 1668) (by decide +kernel) (by decide +kernel), lw_in (i := 14) (by decide +kernel) (by decide +kernel), lw_in (i := 1671) (by decide +kernel) (by decide +kernel), by decide +kernel⟩
theorem vl_X13_count : MkV mX13_count := ⟨lw_in (i := 1669) (by decide +kernel) (by decide +kernel), lw_in (i := 1670) (by decide +kernel) (by decide +kernel)⟩
theorem rl_X13_count : RmL mX13_count := ⟨by decide, by decide⟩
theorem x_0 : (do let sh ← shL[0]?; match sh with | .inr q => (cls[q.1]?).map (fun t => t.1) | .inl _ => none) = some RX11 := by decide +kernel
theorem x_54 : (do let sh ← shL[54]?; match sh with | .inr q => (cls[q.1]?).map (fun t => t.1) | .inl _ => none) = some RX13 := by decide +kernel
section Law3
variable {l : Launch} {D : va_G} {ad : Nat → Nat} {kA : Nat → ClassId} {b L i : Nat} {xs : Nat → Int32} {pc : Nat} {st : List Value} {M : Mem}
theorem k_arg {k : Nat} {n : Int} (hL : L ≤ 3072) (hi : i + 6 ≤ L) (hk : k < 6) (d0 : decode code pc = .ok (.aload_n 0, 1)) (d1 : decode code (pc + 1) = .ok (.iload_n 3, 1)) (d2 : decode code (pc + 2) = .ok (.iconst n, 1)) (d3 : decode code (pc + 3) = .ok (.iadd, 1)) (d4 : decode code (pc + 4) = .ok (.iaload, 1)) (hn : Int32.ofInt n = nI k) (K : Lw l D ad kA b L xs (pc + 5) (loL ad b i) (.int (xs (i + k)) :: st) M) : Lw l D ad kA b L xs pc (loL ad b i) st M := by
  refine k_aload d0 rfl (k_iload d1 rfl (k_iconst d2 hn (k_iadd d3 ?_)))
  rw [nI_add]
  refine k_sld (vp_in_nI (by omega) (by omega)) d4 ?_
  rw [nI_clamp (by omega)]
  exact K
theorem lc_0 (hL : L ≤ 3072) (hi : i + 6 ≤ L) (hR : Rel M) (K : ∀ M2, Rel M2 → Lw l D ad kA b L xs 1038 (loL ad b i) [] M2) : Lw l D ad kA b L xs 176 (loL ad b i) [] M := by -- feed
  refine k_aload d_law_176 rfl ?_
  refine k_arg (k := 1) hL hi (by decide) d_law_177 d_law_178 d_law_179 d_law_180 d_law_181 (by decide) ?_
  refine k_arg (k := 2) hL hi (by decide) d_law_182 d_law_183 d_law_184 d_law_185 d_law_186 (by decide) ?_
  refine k_arg (k := 3) hL hi (by decide) d_law_187 d_law_188 d_law_189 d_law_190 d_law_191 (by decide) ?_
  refine k_arg (k := 4) hL hi (by decide) d_law_192 d_law_193 d_law_194 d_law_195 d_law_196 (by decide) ?_
  refine k_arg (k := 5) hL hi (by decide) d_law_197 d_law_198 d_law_199 d_law_200 d_law_201 (by decide) ?_
  refine k_callV (x := 0) (mi2 := mX11_feed) (As := [.int (xs (i + 1)), .int (xs (i + 2)), .int (xs (i + 3)), .int (xs (i + 4)), .int (xs (i + 5))]) (rest := []) (n := 5) d_law_202 ml_X11_feed vl_X11_feed rl_X11_feed rfl rfl x_0 (Nat.le_of_ble_eq_true rfl) ?_
  refine Cal.imp ?_ (kp_feed hR)
  rintro _ M1 ⟨r, rfl, k1⟩
  refine ⟨_, rfl, ?_⟩
  show Lw l D ad kA b L xs 205 (loL ad b i) [.int r] M1
  refine k_aload d_law_205 rfl ?_
  refine k_arg (k := 1) hL hi (by decide) d_law_206 d_law_207 d_law_208 d_law_209 d_law_210 (by decide) ?_
  refine k_arg (k := 2) hL hi (by decide) d_law_211 d_law_212 d_law_213 d_law_214 d_law_215 (by decide) ?_
  refine k_arg (k := 3) hL hi (by decide) d_law_216 d_law_217 d_law_218 d_law_219 d_law_220 (by decide) ?_
  refine k_arg (k := 4) hL hi (by decide) d_law_221 d_law_222 d_law_223 d_law_224 d_law_225 (by decide) ?_
  refine k_arg (k := 5) hL hi (by decide) d_law_226 d_law_227 d_law_228 d_law_229 d_law_230 (by decide) ?_
  refine k_callV (x := 54) (mi2 := mX13_feed) (As := [.int (xs (i + 1)), .int (xs (i + 2)), .int (xs (i + 3)), .int (xs (i + 4)), .int (xs (i + 5))]) (rest := [.int r]) (n := 5) d_law_231 ml_X13_feed vl_X13_feed rl_X13_feed rfl rfl x_54 (Nat.le_of_ble_eq_true rfl) ?_
  refine Cal.imp ?_ k1
  rintro _ M2 ⟨rfl, hR2⟩
  refine ⟨_, rfl, ?_⟩
  show Lw l D ad kA b L xs 234 (loL ad b i) [.int r, .int r] M2
  exact k_same (tgt := 1038) d_law_234 (by decide) (K M2 hR2)
theorem lc_1 (hL : L ≤ 3072) (hi : i + 6 ≤ L) (hR : Rel M) (K : ∀ M2, Rel M2 → Lw l D ad kA b L xs 1038 (loL ad b i) [] M2) : Lw l D ad kA b L xs 239 (loL ad b i) [] M := by -- end
  refine k_aload d_law_239 rfl ?_
  refine k_arg (k := 1) hL hi (by decide) d_law_240 d_law_241 d_law_242 d_law_243 d_law_244 (by decide) ?_
  refine k_callV (x := 0) (mi2 := mX11_end) (As := [.int (xs (i + 1))]) (rest := []) (n := 1) d_law_245 ml_X11_end vl_X11_end rl_X11_end rfl rfl x_0 (Nat.le_of_ble_eq_true rfl) ?_
  refine Cal.imp ?_ (kp_end hR)
  rintro _ M1 ⟨r, rfl, k1⟩
  refine ⟨_, rfl, ?_⟩
  show Lw l D ad kA b L xs 248 (loL ad b i) [.int r] M1
  refine k_aload d_law_248 rfl ?_
  refine k_arg (k := 1) hL hi (by decide) d_law_249 d_law_250 d_law_251 d_law_252 d_law_253 (by decide) ?_
  refine k_callV (x := 54) (mi2 := mX13_end) (As := [.int (xs (i + 1))]) (rest := [.int r]) (n := 1) d_law_254 ml_X13_end vl_X13_end rl_X13_end rfl rfl x_54 (Nat.le_of_ble_eq_true rfl) ?_
  refine Cal.imp ?_ k1
  rintro _ M2 ⟨rfl, hR2⟩
  refine ⟨_, rfl, ?_⟩
  show Lw l D ad kA b L xs 257 (loL ad b i) [.int r, .int r] M2
  exact k_same (tgt := 1038) d_law_257 (by decide) (K M2 hR2)
theorem lc_2 (hL : L ≤ 3072) (hi : i + 6 ≤ L) (hR : Rel M) (K : ∀ M2, Rel M2 → Lw l D ad kA b L xs 1038 (loL ad b i) [] M2) : Lw l D ad kA b L xs 262 (loL ad b i) [] M := by -- score
  refine k_aload d_law_262 rfl ?_
  refine k_callV (x := 0) (mi2 := mX11_score) (As := []) (rest := []) (n := 0) d_law_263 ml_X11_score vl_X11_score rl_X11_score rfl rfl x_0 (Nat.le_of_ble_eq_true rfl) ?_
  refine Cal.imp ?_ (kp_score hR)
  rintro _ M1 ⟨r, rfl, k1⟩
  refine ⟨_, rfl, ?_⟩
  show Lw l D ad kA b L xs 266 (loL ad b i) [.int r] M1
  refine k_aload d_law_266 rfl ?_
  refine k_callH (x := 54) (mi2 := mX13_score) (As := []) (rest := [.int r]) (n := 0) d_law_267 ml_X13_score vl_X13_score rl_X13_score rfl rfl x_54 (Nat.le_of_ble_eq_true rfl) ?_
  refine CalH.imp ?_ k1
  rintro _ M2 ⟨rfl, hR2⟩
  refine ⟨_, rfl, ?_⟩
  show Lw l D ad kA b L xs 270 (loL ad b i) [.int r, .int r] M2
  exact k_same (tgt := 1038) d_law_270 (by decide) (K M2 hR2)
theorem lc_3 (hL : L ≤ 3072) (hi : i + 6 ≤ L) (hR : Rel M) (K : ∀ M2, Rel M2 → Lw l D ad kA b L xs 1038 (loL ad b i) [] M2) : Lw l D ad kA b L xs 275 (loL ad b i) [] M := by -- manners
  refine k_aload d_law_275 rfl ?_
  refine k_callV (x := 0) (mi2 := mX11_manners) (As := []) (rest := []) (n := 0) d_law_276 ml_X11_manners vl_X11_manners rl_X11_manners rfl rfl x_0 (Nat.le_of_ble_eq_true rfl) ?_
  refine Cal.imp ?_ (kp_manners hR)
  rintro _ M1 ⟨r, rfl, k1⟩
  refine ⟨_, rfl, ?_⟩
  show Lw l D ad kA b L xs 279 (loL ad b i) [.int r] M1
  refine k_aload d_law_279 rfl ?_
  refine k_callH (x := 54) (mi2 := mX13_manners) (As := []) (rest := [.int r]) (n := 0) d_law_280 ml_X13_manners vl_X13_manners rl_X13_manners rfl rfl x_54 (Nat.le_of_ble_eq_true rfl) ?_
  refine CalH.imp ?_ k1
  rintro _ M2 ⟨rfl, hR2⟩
  refine ⟨_, rfl, ?_⟩
  show Lw l D ad kA b L xs 283 (loL ad b i) [.int r, .int r] M2
  exact k_same (tgt := 1038) d_law_283 (by decide) (K M2 hR2)
theorem lc_4 (hL : L ≤ 3072) (hi : i + 6 ≤ L) (hR : Rel M) (K : ∀ M2, Rel M2 → Lw l D ad kA b L xs 1038 (loL ad b i) [] M2) : Lw l D ad kA b L xs 288 (loL ad b i) [] M := by -- fault
  refine k_aload d_law_288 rfl ?_
  refine k_arg (k := 1) hL hi (by decide) d_law_289 d_law_290 d_law_291 d_law_292 d_law_293 (by decide) ?_
  refine k_callV (x := 0) (mi2 := mX11_fault) (As := [.int (xs (i + 1))]) (rest := []) (n := 1) d_law_294 ml_X11_fault vl_X11_fault rl_X11_fault rfl rfl x_0 (Nat.le_of_ble_eq_true rfl) ?_
  refine Cal.imp ?_ (kp_fault hR)
  rintro _ M1 ⟨r, rfl, k1⟩
  refine ⟨_, rfl, ?_⟩
  show Lw l D ad kA b L xs 297 (loL ad b i) [.int r] M1
  refine k_aload d_law_297 rfl ?_
  refine k_arg (k := 1) hL hi (by decide) d_law_298 d_law_299 d_law_300 d_law_301 d_law_302 (by decide) ?_
  refine k_callV (x := 54) (mi2 := mX13_fault) (As := [.int (xs (i + 1))]) (rest := [.int r]) (n := 1) d_law_303 ml_X13_fault vl_X13_fault rl_X13_fault rfl rfl x_54 (Nat.le_of_ble_eq_true rfl) ?_
  refine Cal.imp ?_ k1
  rintro _ M2 ⟨rfl, hR2⟩
  refine ⟨_, rfl, ?_⟩
  show Lw l D ad kA b L xs 306 (loL ad b i) [.int r, .int r] M2
  exact k_same (tgt := 1038) d_law_306 (by decide) (K M2 hR2)
theorem lc_5 (hL : L ≤ 3072) (hi : i + 6 ≤ L) (hR : Rel M) (K : ∀ M2, Rel M2 → Lw l D ad kA b L xs 1038 (loL ad b i) [] M2) : Lw l D ad kA b L xs 311 (loL ad b i) [] M := by -- rule
  refine k_aload d_law_311 rfl ?_
  refine k_arg (k := 1) hL hi (by decide) d_law_312 d_law_313 d_law_314 d_law_315 d_law_316 (by decide) ?_
  refine k_callV (x := 0) (mi2 := mX11_rule) (As := [.int (xs (i + 1))]) (rest := []) (n := 1) d_law_317 ml_X11_rule vl_X11_rule rl_X11_rule rfl rfl x_0 (Nat.le_of_ble_eq_true rfl) ?_
  refine Cal.imp ?_ (kp_rule hR)
  rintro _ M1 ⟨r, rfl, k1⟩
  refine ⟨_, rfl, ?_⟩
  show Lw l D ad kA b L xs 320 (loL ad b i) [.int r] M1
  refine k_aload d_law_320 rfl ?_
  refine k_arg (k := 1) hL hi (by decide) d_law_321 d_law_322 d_law_323 d_law_324 d_law_325 (by decide) ?_
  refine k_callV (x := 54) (mi2 := mX13_rule) (As := [.int (xs (i + 1))]) (rest := [.int r]) (n := 1) d_law_326 ml_X13_rule vl_X13_rule rl_X13_rule rfl rfl x_54 (Nat.le_of_ble_eq_true rfl) ?_
  refine Cal.imp ?_ k1
  rintro _ M2 ⟨rfl, hR2⟩
  refine ⟨_, rfl, ?_⟩
  show Lw l D ad kA b L xs 329 (loL ad b i) [.int r, .int r] M2
  exact k_same (tgt := 1038) d_law_329 (by decide) (K M2 hR2)
theorem lc_6 (hL : L ≤ 3072) (hi : i + 6 ≤ L) (hR : Rel M) (K : ∀ M2, Rel M2 → Lw l D ad kA b L xs 1038 (loL ad b i) [] M2) : Lw l D ad kA b L xs 334 (loL ad b i) [] M := by -- stroke
  refine k_aload d_law_334 rfl ?_
  refine k_arg (k := 1) hL hi (by decide) d_law_335 d_law_336 d_law_337 d_law_338 d_law_339 (by decide) ?_
  refine k_arg (k := 2) hL hi (by decide) d_law_340 d_law_341 d_law_342 d_law_343 d_law_344 (by decide) ?_
  refine k_callV (x := 0) (mi2 := mX11_stroke) (As := [.int (xs (i + 1)), .int (xs (i + 2))]) (rest := []) (n := 2) d_law_345 ml_X11_stroke vl_X11_stroke rl_X11_stroke rfl rfl x_0 (Nat.le_of_ble_eq_true rfl) ?_
  refine Cal.imp ?_ (kp_stroke hR)
  rintro _ M1 ⟨r, rfl, k1⟩
  refine ⟨_, rfl, ?_⟩
  show Lw l D ad kA b L xs 348 (loL ad b i) [.int r] M1
  refine k_aload d_law_348 rfl ?_
  refine k_arg (k := 1) hL hi (by decide) d_law_349 d_law_350 d_law_351 d_law_352 d_law_353 (by decide) ?_
  refine k_arg (k := 2) hL hi (by decide) d_law_354 d_law_355 d_law_356 d_law_357 d_law_358 (by decide) ?_
  refine k_callV (x := 54) (mi2 := mX13_stroke) (As := [.int (xs (i + 1)), .int (xs (i + 2))]) (rest := [.int r]) (n := 2) d_law_359 ml_X13_stroke vl_X13_stroke rl_X13_stroke rfl rfl x_54 (Nat.le_of_ble_eq_true rfl) ?_
  refine Cal.imp ?_ k1
  rintro _ M2 ⟨rfl, hR2⟩
  refine ⟨_, rfl, ?_⟩
  show Lw l D ad kA b L xs 362 (loL ad b i) [.int r, .int r] M2
  exact k_same (tgt := 1038) d_law_362 (by decide) (K M2 hR2)
theorem lc_7 (hL : L ≤ 3072) (hi : i + 6 ≤ L) (hR : Rel M) (K : ∀ M2, Rel M2 → Lw l D ad kA b L xs 1038 (loL ad b i) [] M2) : Lw l D ad kA b L xs 367 (loL ad b i) [] M := by -- ringers
  refine k_aload d_law_367 rfl ?_
  refine k_arg (k := 1) hL hi (by decide) d_law_368 d_law_369 d_law_370 d_law_371 d_law_372 (by decide) ?_
  refine k_callV (x := 0) (mi2 := mX11_ringers) (As := [.int (xs (i + 1))]) (rest := []) (n := 1) d_law_373 ml_X11_ringers vl_X11_ringers rl_X11_ringers rfl rfl x_0 (Nat.le_of_ble_eq_true rfl) ?_
  refine Cal.imp ?_ (kp_ringers hR)
  rintro _ M1 ⟨r, rfl, k1⟩
  refine ⟨_, rfl, ?_⟩
  show Lw l D ad kA b L xs 376 (loL ad b i) [.int r] M1
  refine k_aload d_law_376 rfl ?_
  refine k_arg (k := 1) hL hi (by decide) d_law_377 d_law_378 d_law_379 d_law_380 d_law_381 (by decide) ?_
  refine k_callV (x := 54) (mi2 := mX13_ringers) (As := [.int (xs (i + 1))]) (rest := [.int r]) (n := 1) d_law_382 ml_X13_ringers vl_X13_ringers rl_X13_ringers rfl rfl x_54 (Nat.le_of_ble_eq_true rfl) ?_
  refine Cal.imp ?_ k1
  rintro _ M2 ⟨rfl, hR2⟩
  refine ⟨_, rfl, ?_⟩
  show Lw l D ad kA b L xs 385 (loL ad b i) [.int r, .int r] M2
  exact k_same (tgt := 1038) d_law_385 (by decide) (K M2 hR2)
theorem lc_8 (hL : L ≤ 3072) (hi : i + 6 ≤ L) (hR : Rel M) (K : ∀ M2, Rel M2 → Lw l D ad kA b L xs 1038 (loL ad b i) [] M2) : Lw l D ad kA b L xs 390 (loL ad b i) [] M := by -- absent
  by_cases hz : xs (i + 2) = 0
  · skip
    refine k_aload d_law_390 rfl ?_
    refine k_arg (k := 1) hL hi (by decide) d_law_391 d_law_392 d_law_393 d_law_394 d_law_395 (by decide) ?_
    refine k_arg (k := 2) hL hi (by decide) d_law_396 d_law_397 d_law_398 d_law_399 d_law_400 (by decide) ?_
    refine k_ifeq (tgt := 408) d_law_401 (by decide) (fun _ => ?_) (fun q => absurd hz q)
    refine k_iconst (v := 0) d_law_408 (by decide) ?_
    refine k_callV (x := 0) (mi2 := mX11_absent) (As := [.int (xs (i + 1)), .int (0)]) (rest := []) (n := 2) d_law_409 ml_X11_absent vl_X11_absent rl_X11_absent rfl rfl x_0 (Nat.le_of_ble_eq_true rfl) ?_
    refine Cal.imp ?_ (kp_absent (Or.inl rfl) hR)
    rintro _ M1 ⟨r, rfl, k1⟩
    refine ⟨_, rfl, ?_⟩
    show Lw l D ad kA b L xs 412 (loL ad b i) [.int r] M1
    refine k_aload d_law_412 rfl ?_
    refine k_arg (k := 1) hL hi (by decide) d_law_413 d_law_414 d_law_415 d_law_416 d_law_417 (by decide) ?_
    refine k_arg (k := 2) hL hi (by decide) d_law_418 d_law_419 d_law_420 d_law_421 d_law_422 (by decide) ?_
    refine k_ifeq (tgt := 430) d_law_423 (by decide) (fun _ => ?_) (fun q => absurd hz q)
    refine k_iconst (v := 0) d_law_430 (by decide) ?_
    refine k_callV (x := 54) (mi2 := mX13_absent) (As := [.int (xs (i + 1)), .int (0)]) (rest := [.int r]) (n := 2) d_law_431 ml_X13_absent vl_X13_absent rl_X13_absent rfl rfl x_54 (Nat.le_of_ble_eq_true rfl) ?_
    refine Cal.imp ?_ k1
    rintro _ M2 ⟨rfl, hR2⟩
    refine ⟨_, rfl, ?_⟩
    show Lw l D ad kA b L xs 434 (loL ad b i) [.int r, .int r] M2
    exact k_same (tgt := 1038) d_law_434 (by decide) (K M2 hR2)
  · skip
    refine k_aload d_law_390 rfl ?_
    refine k_arg (k := 1) hL hi (by decide) d_law_391 d_law_392 d_law_393 d_law_394 d_law_395 (by decide) ?_
    refine k_arg (k := 2) hL hi (by decide) d_law_396 d_law_397 d_law_398 d_law_399 d_law_400 (by decide) ?_
    refine k_ifeq (tgt := 408) d_law_401 (by decide) (fun q => absurd q hz) (fun _ => ?_)
    refine k_iconst (v := 1) d_law_404 (by decide) ?_
    refine k_goto (tgt := 409) d_law_405 (by decide) ?_
    refine k_callV (x := 0) (mi2 := mX11_absent) (As := [.int (xs (i + 1)), .int (1)]) (rest := []) (n := 2) d_law_409 ml_X11_absent vl_X11_absent rl_X11_absent rfl rfl x_0 (Nat.le_of_ble_eq_true rfl) ?_
    refine Cal.imp ?_ (kp_absent (Or.inr rfl) hR)
    rintro _ M1 ⟨r, rfl, k1⟩
    refine ⟨_, rfl, ?_⟩
    show Lw l D ad kA b L xs 412 (loL ad b i) [.int r] M1
    refine k_aload d_law_412 rfl ?_
    refine k_arg (k := 1) hL hi (by decide) d_law_413 d_law_414 d_law_415 d_law_416 d_law_417 (by decide) ?_
    refine k_arg (k := 2) hL hi (by decide) d_law_418 d_law_419 d_law_420 d_law_421 d_law_422 (by decide) ?_
    refine k_ifeq (tgt := 430) d_law_423 (by decide) (fun q => absurd q hz) (fun _ => ?_)
    refine k_iconst (v := 1) d_law_426 (by decide) ?_
    refine k_goto (tgt := 431) d_law_427 (by decide) ?_
    refine k_callV (x := 54) (mi2 := mX13_absent) (As := [.int (xs (i + 1)), .int (1)]) (rest := [.int r]) (n := 2) d_law_431 ml_X13_absent vl_X13_absent rl_X13_absent rfl rfl x_54 (Nat.le_of_ble_eq_true rfl) ?_
    refine Cal.imp ?_ k1
    rintro _ M2 ⟨rfl, hR2⟩
    refine ⟨_, rfl, ?_⟩
    show Lw l D ad kA b L xs 434 (loL ad b i) [.int r, .int r] M2
    exact k_same (tgt := 1038) d_law_434 (by decide) (K M2 hR2)
theorem lc_9 (hL : L ≤ 3072) (hi : i + 6 ≤ L) (hR : Rel M) (K : ∀ M2, Rel M2 → Lw l D ad kA b L xs 1038 (loL ad b i) [] M2) : Lw l D ad kA b L xs 439 (loL ad b i) [] M := by -- hands
  refine k_aload d_law_439 rfl ?_
  refine k_arg (k := 1) hL hi (by decide) d_law_440 d_law_441 d_law_442 d_law_443 d_law_444 (by decide) ?_
  refine k_i2l d_law_445 ?_
  refine k_bipush (v := 32) d_law_446 (by decide) ?_
  refine k_lshl d_law_448 ?_
  refine k_arg (k := 2) hL hi (by decide) d_law_449 d_law_450 d_law_451 d_law_452 d_law_453 (by decide) ?_
  refine k_i2l d_law_454 ?_
  refine k_ldc2 (v := 4294967295) d_law_455 (List.mem_append_right _ (List.mem_of_getElem? (i := 1672) (by decide +kernel))) ?_
  refine k_land d_law_458 ?_
  refine k_lor d_law_459 ?_
  refine k_callV (x := 0) (mi2 := mX11_hands) (As := [.long ((lshl ((xs (i + 1)).toInt64) 32) ||| (((xs (i + 2)).toInt64) &&& 4294967295))]) (rest := []) (n := 1) d_law_460 ml_X11_hands vl_X11_hands rl_X11_hands rfl rfl x_0 (Nat.le_of_ble_eq_true rfl) ?_
  refine Cal.imp ?_ (kp_hands hR)
  rintro _ M1 ⟨r, rfl, k1⟩
  refine ⟨_, rfl, ?_⟩
  show Lw l D ad kA b L xs 463 (loL ad b i) [.int r] M1
  refine k_aload d_law_463 rfl ?_
  refine k_arg (k := 1) hL hi (by decide) d_law_464 d_law_465 d_law_466 d_law_467 d_law_468 (by decide) ?_
  refine k_i2l d_law_469 ?_
  refine k_bipush (v := 32) d_law_470 (by decide) ?_
  refine k_lshl d_law_472 ?_
  refine k_arg (k := 2) hL hi (by decide) d_law_473 d_law_474 d_law_475 d_law_476 d_law_477 (by decide) ?_
  refine k_i2l d_law_478 ?_
  refine k_ldc2 (v := 4294967295) d_law_479 (List.mem_append_right _ (List.mem_of_getElem? (i := 1672) (by decide +kernel))) ?_
  refine k_land d_law_482 ?_
  refine k_lor d_law_483 ?_
  refine k_callV (x := 54) (mi2 := mX13_hands) (As := [.long ((lshl ((xs (i + 1)).toInt64) 32) ||| (((xs (i + 2)).toInt64) &&& 4294967295))]) (rest := [.int r]) (n := 1) d_law_484 ml_X13_hands vl_X13_hands rl_X13_hands rfl rfl x_54 (Nat.le_of_ble_eq_true rfl) ?_
  refine Cal.imp ?_ k1
  rintro _ M2 ⟨rfl, hR2⟩
  refine ⟨_, rfl, ?_⟩
  show Lw l D ad kA b L xs 487 (loL ad b i) [.int r, .int r] M2
  exact k_same (tgt := 1038) d_law_487 (by decide) (K M2 hR2)
theorem lc_10 (hL : L ≤ 3072) (hi : i + 6 ≤ L) (hR : Rel M) (K : ∀ M2, Rel M2 → Lw l D ad kA b L xs 1038 (loL ad b i) [] M2) : Lw l D ad kA b L xs 492 (loL ad b i) [] M := by -- hand
  refine k_aload d_law_492 rfl ?_
  refine k_arg (k := 1) hL hi (by decide) d_law_493 d_law_494 d_law_495 d_law_496 d_law_497 (by decide) ?_
  refine k_callV (x := 0) (mi2 := mX11_hand) (As := [.int (xs (i + 1))]) (rest := []) (n := 1) d_law_498 ml_X11_hand vl_X11_hand rl_X11_hand rfl rfl x_0 (Nat.le_of_ble_eq_true rfl) ?_
  refine Cal.imp ?_ (kp_hand hR)
  rintro _ M1 ⟨r, rfl, k1⟩
  refine ⟨_, rfl, ?_⟩
  show Lw l D ad kA b L xs 501 (loL ad b i) [.int r] M1
  refine k_aload d_law_501 rfl ?_
  refine k_arg (k := 1) hL hi (by decide) d_law_502 d_law_503 d_law_504 d_law_505 d_law_506 (by decide) ?_
  refine k_callV (x := 54) (mi2 := mX13_hand) (As := [.int (xs (i + 1))]) (rest := [.int r]) (n := 1) d_law_507 ml_X13_hand vl_X13_hand rl_X13_hand rfl rfl x_54 (Nat.le_of_ble_eq_true rfl) ?_
  refine Cal.imp ?_ k1
  rintro _ M2 ⟨rfl, hR2⟩
  refine ⟨_, rfl, ?_⟩
  show Lw l D ad kA b L xs 510 (loL ad b i) [.int r, .int r] M2
  exact k_same (tgt := 1038) d_law_510 (by decide) (K M2 hR2)
theorem lc_11 (hL : L ≤ 3072) (hi : i + 6 ≤ L) (hR : Rel M) (K : ∀ M2, Rel M2 → Lw l D ad kA b L xs 1038 (loL ad b i) [] M2) : Lw l D ad kA b L xs 515 (loL ad b i) [] M := by -- part
  refine k_aload d_law_515 rfl ?_
  refine k_callV (x := 0) (mi2 := mX11_part) (As := []) (rest := []) (n := 0) d_law_516 ml_X11_part vl_X11_part rl_X11_part rfl rfl x_0 (Nat.le_of_ble_eq_true rfl) ?_
  refine Cal.imp ?_ (kp_part hR)
  rintro _ M1 ⟨r, rfl, k1⟩
  refine ⟨_, rfl, ?_⟩
  show Lw l D ad kA b L xs 519 (loL ad b i) [.int r] M1
  refine k_aload d_law_519 rfl ?_
  refine k_callV (x := 54) (mi2 := mX13_part) (As := []) (rest := [.int r]) (n := 0) d_law_520 ml_X13_part vl_X13_part rl_X13_part rfl rfl x_54 (Nat.le_of_ble_eq_true rfl) ?_
  refine Cal.imp ?_ k1
  rintro _ M2 ⟨rfl, hR2⟩
  refine ⟨_, rfl, ?_⟩
  show Lw l D ad kA b L xs 523 (loL ad b i) [.int r, .int r] M2
  exact k_same (tgt := 1038) d_law_523 (by decide) (K M2 hR2)
theorem lc_12 (hL : L ≤ 3072) (hi : i + 6 ≤ L) (hR : Rel M) (K : ∀ M2, Rel M2 → Lw l D ad kA b L xs 1038 (loL ad b i) [] M2) : Lw l D ad kA b L xs 528 (loL ad b i) [] M := by -- give
  refine k_aload d_law_528 rfl ?_
  refine k_arg (k := 1) hL hi (by decide) d_law_529 d_law_530 d_law_531 d_law_532 d_law_533 (by decide) ?_
  refine k_arg (k := 2) hL hi (by decide) d_law_534 d_law_535 d_law_536 d_law_537 d_law_538 (by decide) ?_
  refine k_callV (x := 0) (mi2 := mX11_give) (As := [.int (xs (i + 1)), .int (xs (i + 2))]) (rest := []) (n := 2) d_law_539 ml_X11_give vl_X11_give rl_X11_give rfl rfl x_0 (Nat.le_of_ble_eq_true rfl) ?_
  refine Cal.imp ?_ (kp_give hR)
  rintro _ M1 ⟨r, rfl, k1⟩
  refine ⟨_, rfl, ?_⟩
  show Lw l D ad kA b L xs 542 (loL ad b i) [.int r] M1
  refine k_aload d_law_542 rfl ?_
  refine k_arg (k := 1) hL hi (by decide) d_law_543 d_law_544 d_law_545 d_law_546 d_law_547 (by decide) ?_
  refine k_arg (k := 2) hL hi (by decide) d_law_548 d_law_549 d_law_550 d_law_551 d_law_552 (by decide) ?_
  refine k_callV (x := 54) (mi2 := mX13_give) (As := [.int (xs (i + 1)), .int (xs (i + 2))]) (rest := [.int r]) (n := 2) d_law_553 ml_X13_give vl_X13_give rl_X13_give rfl rfl x_54 (Nat.le_of_ble_eq_true rfl) ?_
  refine Cal.imp ?_ k1
  rintro _ M2 ⟨rfl, hR2⟩
  refine ⟨_, rfl, ?_⟩
  show Lw l D ad kA b L xs 556 (loL ad b i) [.int r, .int r] M2
  exact k_same (tgt := 1038) d_law_556 (by decide) (K M2 hR2)
theorem lc_13 (hL : L ≤ 3072) (hi : i + 6 ≤ L) (hR : Rel M) (K : ∀ M2, Rel M2 → Lw l D ad kA b L xs 1038 (loL ad b i) [] M2) : Lw l D ad kA b L xs 561 (loL ad b i) [] M := by -- parted
  refine k_aload d_law_561 rfl ?_
  refine k_arg (k := 1) hL hi (by decide) d_law_562 d_law_563 d_law_564 d_law_565 d_law_566 (by decide) ?_
  refine k_callV (x := 0) (mi2 := mX11_parted) (As := [.int (xs (i + 1))]) (rest := []) (n := 1) d_law_567 ml_X11_parted vl_X11_parted rl_X11_parted rfl rfl x_0 (Nat.le_of_ble_eq_true rfl) ?_
  refine Cal.imp ?_ (kp_parted hR)
  rintro _ M1 ⟨r, rfl, k1⟩
  refine ⟨_, rfl, ?_⟩
  show Lw l D ad kA b L xs 570 (loL ad b i) [.int r] M1
  refine k_aload d_law_570 rfl ?_
  refine k_arg (k := 1) hL hi (by decide) d_law_571 d_law_572 d_law_573 d_law_574 d_law_575 (by decide) ?_
  refine k_callV (x := 54) (mi2 := mX13_parted) (As := [.int (xs (i + 1))]) (rest := [.int r]) (n := 1) d_law_576 ml_X13_parted vl_X13_parted rl_X13_parted rfl rfl x_54 (Nat.le_of_ble_eq_true rfl) ?_
  refine Cal.imp ?_ k1
  rintro _ M2 ⟨rfl, hR2⟩
  refine ⟨_, rfl, ?_⟩
  show Lw l D ad kA b L xs 579 (loL ad b i) [.int r, .int r] M2
  exact k_same (tgt := 1038) d_law_579 (by decide) (K M2 hR2)
theorem lc_14 (hL : L ≤ 3072) (hi : i + 6 ≤ L) (hR : Rel M) (K : ∀ M2, Rel M2 → Lw l D ad kA b L xs 1038 (loL ad b i) [] M2) : Lw l D ad kA b L xs 584 (loL ad b i) [] M := by -- load
  refine k_aload d_law_584 rfl ?_
  refine k_arg (k := 1) hL hi (by decide) d_law_585 d_law_586 d_law_587 d_law_588 d_law_589 (by decide) ?_
  refine k_callV (x := 0) (mi2 := mX11_load) (As := [.int (xs (i + 1))]) (rest := []) (n := 1) d_law_590 ml_X11_load vl_X11_load rl_X11_load rfl rfl x_0 (Nat.le_of_ble_eq_true rfl) ?_
  refine Cal.imp ?_ (kp_load hR)
  rintro _ M1 ⟨r, rfl, k1⟩
  refine ⟨_, rfl, ?_⟩
  show Lw l D ad kA b L xs 593 (loL ad b i) [.int r] M1
  refine k_aload d_law_593 rfl ?_
  refine k_arg (k := 1) hL hi (by decide) d_law_594 d_law_595 d_law_596 d_law_597 d_law_598 (by decide) ?_
  refine k_callV (x := 54) (mi2 := mX13_load) (As := [.int (xs (i + 1))]) (rest := [.int r]) (n := 1) d_law_599 ml_X13_load vl_X13_load rl_X13_load rfl rfl x_54 (Nat.le_of_ble_eq_true rfl) ?_
  refine Cal.imp ?_ k1
  rintro _ M2 ⟨rfl, hR2⟩
  refine ⟨_, rfl, ?_⟩
  show Lw l D ad kA b L xs 602 (loL ad b i) [.int r, .int r] M2
  exact k_same (tgt := 1038) d_law_602 (by decide) (K M2 hR2)
theorem lc_15 (hL : L ≤ 3072) (hi : i + 6 ≤ L) (hR : Rel M) (K : ∀ M2, Rel M2 → Lw l D ad kA b L xs 1038 (loL ad b i) [] M2) : Lw l D ad kA b L xs 607 (loL ad b i) [] M := by -- cover
  refine k_aload d_law_607 rfl ?_
  refine k_arg (k := 1) hL hi (by decide) d_law_608 d_law_609 d_law_610 d_law_611 d_law_612 (by decide) ?_
  refine k_callV (x := 0) (mi2 := mX11_cover) (As := [.int (xs (i + 1))]) (rest := []) (n := 1) d_law_613 ml_X11_cover vl_X11_cover rl_X11_cover rfl rfl x_0 (Nat.le_of_ble_eq_true rfl) ?_
  refine Cal.imp ?_ (kp_cover hR)
  rintro _ M1 ⟨r, rfl, k1⟩
  refine ⟨_, rfl, ?_⟩
  show Lw l D ad kA b L xs 616 (loL ad b i) [.int r] M1
  refine k_aload d_law_616 rfl ?_
  refine k_arg (k := 1) hL hi (by decide) d_law_617 d_law_618 d_law_619 d_law_620 d_law_621 (by decide) ?_
  refine k_callV (x := 54) (mi2 := mX13_cover) (As := [.int (xs (i + 1))]) (rest := [.int r]) (n := 1) d_law_622 ml_X13_cover vl_X13_cover rl_X13_cover rfl rfl x_54 (Nat.le_of_ble_eq_true rfl) ?_
  refine Cal.imp ?_ k1
  rintro _ M2 ⟨rfl, hR2⟩
  refine ⟨_, rfl, ?_⟩
  show Lw l D ad kA b L xs 625 (loL ad b i) [.int r, .int r] M2
  exact k_same (tgt := 1038) d_law_625 (by decide) (K M2 hR2)
theorem lc_16 (hL : L ≤ 3072) (hi : i + 6 ≤ L) (hR : Rel M) (K : ∀ M2, Rel M2 → Lw l D ad kA b L xs 1038 (loL ad b i) [] M2) : Lw l D ad kA b L xs 630 (loL ad b i) [] M := by -- help
  refine k_aload d_law_630 rfl ?_
  refine k_arg (k := 1) hL hi (by decide) d_law_631 d_law_632 d_law_633 d_law_634 d_law_635 (by decide) ?_
  refine k_callV (x := 0) (mi2 := mX11_help) (As := [.int (xs (i + 1))]) (rest := []) (n := 1) d_law_636 ml_X11_help vl_X11_help rl_X11_help rfl rfl x_0 (Nat.le_of_ble_eq_true rfl) ?_
  refine Cal.imp ?_ (kp_help hR)
  rintro _ M1 ⟨r, rfl, k1⟩
  refine ⟨_, rfl, ?_⟩
  show Lw l D ad kA b L xs 639 (loL ad b i) [.int r] M1
  refine k_aload d_law_639 rfl ?_
  refine k_arg (k := 1) hL hi (by decide) d_law_640 d_law_641 d_law_642 d_law_643 d_law_644 (by decide) ?_
  refine k_callV (x := 54) (mi2 := mX13_help) (As := [.int (xs (i + 1))]) (rest := [.int r]) (n := 1) d_law_645 ml_X13_help vl_X13_help rl_X13_help rfl rfl x_54 (Nat.le_of_ble_eq_true rfl) ?_
  refine Cal.imp ?_ k1
  rintro _ M2 ⟨rfl, hR2⟩
  refine ⟨_, rfl, ?_⟩
  show Lw l D ad kA b L xs 648 (loL ad b i) [.int r, .int r] M2
  exact k_same (tgt := 1038) d_law_648 (by decide) (K M2 hR2)
theorem lc_17 (hL : L ≤ 3072) (hi : i + 6 ≤ L) (hR : Rel M) (K : ∀ M2, Rel M2 → Lw l D ad kA b L xs 1038 (loL ad b i) [] M2) : Lw l D ad kA b L xs 653 (loL ad b i) [] M := by -- helped
  refine k_aload d_law_653 rfl ?_
  refine k_arg (k := 1) hL hi (by decide) d_law_654 d_law_655 d_law_656 d_law_657 d_law_658 (by decide) ?_
  refine k_callV (x := 0) (mi2 := mX11_helped) (As := [.int (xs (i + 1))]) (rest := []) (n := 1) d_law_659 ml_X11_helped vl_X11_helped rl_X11_helped rfl rfl x_0 (Nat.le_of_ble_eq_true rfl) ?_
  refine Cal.imp ?_ (kp_helped hR)
  rintro _ M1 ⟨r, rfl, k1⟩
  refine ⟨_, rfl, ?_⟩
  show Lw l D ad kA b L xs 662 (loL ad b i) [.int r] M1
  refine k_aload d_law_662 rfl ?_
  refine k_arg (k := 1) hL hi (by decide) d_law_663 d_law_664 d_law_665 d_law_666 d_law_667 (by decide) ?_
  refine k_callV (x := 54) (mi2 := mX13_helped) (As := [.int (xs (i + 1))]) (rest := [.int r]) (n := 1) d_law_668 ml_X13_helped vl_X13_helped rl_X13_helped rfl rfl x_54 (Nat.le_of_ble_eq_true rfl) ?_
  refine Cal.imp ?_ k1
  rintro _ M2 ⟨rfl, hR2⟩
  refine ⟨_, rfl, ?_⟩
  show Lw l D ad kA b L xs 671 (loL ad b i) [.int r, .int r] M2
  exact k_same (tgt := 1038) d_law_671 (by decide) (K M2 hR2)
theorem lc_18 (hL : L ≤ 3072) (hi : i + 6 ≤ L) (hR : Rel M) (K : ∀ M2, Rel M2 → Lw l D ad kA b L xs 1038 (loL ad b i) [] M2) : Lw l D ad kA b L xs 676 (loL ad b i) [] M := by -- clashes
  refine k_aload d_law_676 rfl ?_
  refine k_callV (x := 0) (mi2 := mX11_clashes) (As := []) (rest := []) (n := 0) d_law_677 ml_X11_clashes vl_X11_clashes rl_X11_clashes rfl rfl x_0 (Nat.le_of_ble_eq_true rfl) ?_
  refine Cal.imp ?_ (kp_clashes hR)
  rintro _ M1 ⟨r, rfl, k1⟩
  refine ⟨_, rfl, ?_⟩
  show Lw l D ad kA b L xs 680 (loL ad b i) [.int r] M1
  refine k_aload d_law_680 rfl ?_
  refine k_callV (x := 54) (mi2 := mX13_clashes) (As := []) (rest := [.int r]) (n := 0) d_law_681 ml_X13_clashes vl_X13_clashes rl_X13_clashes rfl rfl x_54 (Nat.le_of_ble_eq_true rfl) ?_
  refine Cal.imp ?_ k1
  rintro _ M2 ⟨rfl, hR2⟩
  refine ⟨_, rfl, ?_⟩
  show Lw l D ad kA b L xs 684 (loL ad b i) [.int r, .int r] M2
  exact k_same (tgt := 1038) d_law_684 (by decide) (K M2 hR2)
theorem lc_19 (hL : L ≤ 3072) (hi : i + 6 ≤ L) (hR : Rel M) (K : ∀ M2, Rel M2 → Lw l D ad kA b L xs 1038 (loL ad b i) [] M2) : Lw l D ad kA b L xs 689 (loL ad b i) [] M := by -- clash
  refine k_aload d_law_689 rfl ?_
  refine k_arg (k := 1) hL hi (by decide) d_law_690 d_law_691 d_law_692 d_law_693 d_law_694 (by decide) ?_
  refine k_arg (k := 2) hL hi (by decide) d_law_695 d_law_696 d_law_697 d_law_698 d_law_699 (by decide) ?_
  refine k_callV (x := 0) (mi2 := mX11_clash) (As := [.int (xs (i + 1)), .int (xs (i + 2))]) (rest := []) (n := 2) d_law_700 ml_X11_clash vl_X11_clash rl_X11_clash rfl rfl x_0 (Nat.le_of_ble_eq_true rfl) ?_
  refine Cal.imp ?_ (kp_clash hR)
  rintro _ M1 ⟨r, rfl, k1⟩
  refine ⟨_, rfl, ?_⟩
  show Lw l D ad kA b L xs 703 (loL ad b i) [.int r] M1
  refine k_aload d_law_703 rfl ?_
  refine k_arg (k := 1) hL hi (by decide) d_law_704 d_law_705 d_law_706 d_law_707 d_law_708 (by decide) ?_
  refine k_arg (k := 2) hL hi (by decide) d_law_709 d_law_710 d_law_711 d_law_712 d_law_713 (by decide) ?_
  refine k_callV (x := 54) (mi2 := mX13_clash) (As := [.int (xs (i + 1)), .int (xs (i + 2))]) (rest := [.int r]) (n := 2) d_law_714 ml_X13_clash vl_X13_clash rl_X13_clash rfl rfl x_54 (Nat.le_of_ble_eq_true rfl) ?_
  refine Cal.imp ?_ k1
  rintro _ M2 ⟨rfl, hR2⟩
  refine ⟨_, rfl, ?_⟩
  show Lw l D ad kA b L xs 717 (loL ad b i) [.int r, .int r] M2
  exact k_same (tgt := 1038) d_law_717 (by decide) (K M2 hR2)
theorem lc_20 (hL : L ≤ 3072) (hi : i + 6 ≤ L) (hR : Rel M) (K : ∀ M2, Rel M2 → Lw l D ad kA b L xs 1038 (loL ad b i) [] M2) : Lw l D ad kA b L xs 722 (loL ad b i) [] M := by -- damp
  refine k_aload d_law_722 rfl ?_
  refine k_callV (x := 0) (mi2 := mX11_damp) (As := []) (rest := []) (n := 0) d_law_723 ml_X11_damp vl_X11_damp rl_X11_damp rfl rfl x_0 (Nat.le_of_ble_eq_true rfl) ?_
  refine Cal.imp ?_ (kp_damp hR)
  rintro _ M1 ⟨r, rfl, k1⟩
  refine ⟨_, rfl, ?_⟩
  show Lw l D ad kA b L xs 726 (loL ad b i) [.int r] M1
  refine k_aload d_law_726 rfl ?_
  refine k_callV (x := 54) (mi2 := mX13_damp) (As := []) (rest := [.int r]) (n := 0) d_law_727 ml_X13_damp vl_X13_damp rl_X13_damp rfl rfl x_54 (Nat.le_of_ble_eq_true rfl) ?_
  refine Cal.imp ?_ k1
  rintro _ M2 ⟨rfl, hR2⟩
  refine ⟨_, rfl, ?_⟩
  show Lw l D ad kA b L xs 730 (loL ad b i) [.int r, .int r] M2
  exact k_same (tgt := 1038) d_law_730 (by decide) (K M2 hR2)
theorem lc_21 (hL : L ≤ 3072) (hi : i + 6 ≤ L) (hR : Rel M) (K : ∀ M2, Rel M2 → Lw l D ad kA b L xs 1038 (loL ad b i) [] M2) : Lw l D ad kA b L xs 735 (loL ad b i) [] M := by -- heard
  refine k_aload d_law_735 rfl ?_
  refine k_callV (x := 0) (mi2 := mX11_heard) (As := []) (rest := []) (n := 0) d_law_736 ml_X11_heard vl_X11_heard rl_X11_heard rfl rfl x_0 (Nat.le_of_ble_eq_true rfl) ?_
  refine Cal.imp ?_ (kp_heard hR)
  rintro _ M1 ⟨r, rfl, k1⟩
  refine ⟨_, rfl, ?_⟩
  show Lw l D ad kA b L xs 739 (loL ad b i) [.int r] M1
  refine k_aload d_law_739 rfl ?_
  refine k_callH (x := 54) (mi2 := mX13_heard) (As := []) (rest := [.int r]) (n := 0) d_law_740 ml_X13_heard vl_X13_heard rl_X13_heard rfl rfl x_54 (Nat.le_of_ble_eq_true rfl) ?_
  refine CalH.imp ?_ k1
  rintro _ M2 ⟨rfl, hR2⟩
  refine ⟨_, rfl, ?_⟩
  show Lw l D ad kA b L xs 743 (loL ad b i) [.int r, .int r] M2
  exact k_same (tgt := 1038) d_law_743 (by decide) (K M2 hR2)
theorem lc_22 (hL : L ≤ 3072) (hi : i + 6 ≤ L) (hR : Rel M) (K : ∀ M2, Rel M2 → Lw l D ad kA b L xs 1038 (loL ad b i) [] M2) : Lw l D ad kA b L xs 748 (loL ad b i) [] M := by -- laid
  refine k_aload d_law_748 rfl ?_
  refine k_arg (k := 1) hL hi (by decide) d_law_749 d_law_750 d_law_751 d_law_752 d_law_753 (by decide) ?_
  refine k_arg (k := 2) hL hi (by decide) d_law_754 d_law_755 d_law_756 d_law_757 d_law_758 (by decide) ?_
  refine k_callV (x := 0) (mi2 := mX11_laid) (As := [.int (xs (i + 1)), .int (xs (i + 2))]) (rest := []) (n := 2) d_law_759 ml_X11_laid vl_X11_laid rl_X11_laid rfl rfl x_0 (Nat.le_of_ble_eq_true rfl) ?_
  refine Cal.imp ?_ (kp_laid hR)
  rintro _ M1 ⟨r, rfl, k1⟩
  refine ⟨_, rfl, ?_⟩
  show Lw l D ad kA b L xs 762 (loL ad b i) [.int r] M1
  refine k_aload d_law_762 rfl ?_
  refine k_arg (k := 1) hL hi (by decide) d_law_763 d_law_764 d_law_765 d_law_766 d_law_767 (by decide) ?_
  refine k_arg (k := 2) hL hi (by decide) d_law_768 d_law_769 d_law_770 d_law_771 d_law_772 (by decide) ?_
  refine k_callV (x := 54) (mi2 := mX13_laid) (As := [.int (xs (i + 1)), .int (xs (i + 2))]) (rest := [.int r]) (n := 2) d_law_773 ml_X13_laid vl_X13_laid rl_X13_laid rfl rfl x_54 (Nat.le_of_ble_eq_true rfl) ?_
  refine Cal.imp ?_ k1
  rintro _ M2 ⟨rfl, hR2⟩
  refine ⟨_, rfl, ?_⟩
  show Lw l D ad kA b L xs 776 (loL ad b i) [.int r, .int r] M2
  exact k_same (tgt := 1038) d_law_776 (by decide) (K M2 hR2)
theorem lc_23 (hL : L ≤ 3072) (hi : i + 6 ≤ L) (hR : Rel M) (K : ∀ M2, Rel M2 → Lw l D ad kA b L xs 1038 (loL ad b i) [] M2) : Lw l D ad kA b L xs 781 (loL ad b i) [] M := by -- more
  refine k_aload d_law_781 rfl ?_
  refine k_callV (x := 0) (mi2 := mX11_more) (As := []) (rest := []) (n := 0) d_law_782 ml_X11_more vl_X11_more rl_X11_more rfl rfl x_0 (Nat.le_of_ble_eq_true rfl) ?_
  refine Cal.imp ?_ (kp_more hR)
  rintro _ M1 ⟨r, rfl, k1⟩
  refine ⟨_, rfl, ?_⟩
  show Lw l D ad kA b L xs 785 (loL ad b i) [.int r] M1
  refine k_aload d_law_785 rfl ?_
  refine k_callV (x := 54) (mi2 := mX13_more) (As := []) (rest := [.int r]) (n := 0) d_law_786 ml_X13_more vl_X13_more rl_X13_more rfl rfl x_54 (Nat.le_of_ble_eq_true rfl) ?_
  refine Cal.imp ?_ k1
  rintro _ M2 ⟨rfl, hR2⟩
  refine ⟨_, rfl, ?_⟩
  show Lw l D ad kA b L xs 789 (loL ad b i) [.int r, .int r] M2
  exact k_same (tgt := 1038) d_law_789 (by decide) (K M2 hR2)
theorem lc_24 (hL : L ≤ 3072) (hi : i + 6 ≤ L) (hR : Rel M) (K : ∀ M2, Rel M2 → Lw l D ad kA b L xs 1038 (loL ad b i) [] M2) : Lw l D ad kA b L xs 794 (loL ad b i) [] M := by -- blame
  refine k_aload d_law_794 rfl ?_
  refine k_arg (k := 1) hL hi (by decide) d_law_795 d_law_796 d_law_797 d_law_798 d_law_799 (by decide) ?_
  refine k_callV (x := 0) (mi2 := mX11_blame) (As := [.int (xs (i + 1))]) (rest := []) (n := 1) d_law_800 ml_X11_blame vl_X11_blame rl_X11_blame rfl rfl x_0 (Nat.le_of_ble_eq_true rfl) ?_
  refine Cal.imp ?_ (kp_blame hR)
  rintro _ M1 ⟨r, rfl, k1⟩
  refine ⟨_, rfl, ?_⟩
  show Lw l D ad kA b L xs 803 (loL ad b i) [.int r] M1
  refine k_aload d_law_803 rfl ?_
  refine k_arg (k := 1) hL hi (by decide) d_law_804 d_law_805 d_law_806 d_law_807 d_law_808 (by decide) ?_
  refine k_callV (x := 54) (mi2 := mX13_blame) (As := [.int (xs (i + 1))]) (rest := [.int r]) (n := 1) d_law_809 ml_X13_blame vl_X13_blame rl_X13_blame rfl rfl x_54 (Nat.le_of_ble_eq_true rfl) ?_
  refine Cal.imp ?_ k1
  rintro _ M2 ⟨rfl, hR2⟩
  refine ⟨_, rfl, ?_⟩
  show Lw l D ad kA b L xs 812 (loL ad b i) [.int r, .int r] M2
  exact k_same (tgt := 1038) d_law_812 (by decide) (K M2 hR2)
theorem lc_25 (hL : L ≤ 3072) (hi : i + 6 ≤ L) (hR : Rel M) (K : ∀ M2, Rel M2 → Lw l D ad kA b L xs 1038 (loL ad b i) [] M2) : Lw l D ad kA b L xs 817 (loL ad b i) [] M := by -- pass
  refine k_aload d_law_817 rfl ?_
  refine k_arg (k := 1) hL hi (by decide) d_law_818 d_law_819 d_law_820 d_law_821 d_law_822 (by decide) ?_
  refine k_callV (x := 0) (mi2 := mX11_pass) (As := [.int (xs (i + 1))]) (rest := []) (n := 1) d_law_823 ml_X11_pass vl_X11_pass rl_X11_pass rfl rfl x_0 (Nat.le_of_ble_eq_true rfl) ?_
  refine Cal.imp ?_ (kp_pass hR)
  rintro _ M1 ⟨r, rfl, k1⟩
  refine ⟨_, rfl, ?_⟩
  show Lw l D ad kA b L xs 826 (loL ad b i) [.int r] M1
  refine k_aload d_law_826 rfl ?_
  refine k_arg (k := 1) hL hi (by decide) d_law_827 d_law_828 d_law_829 d_law_830 d_law_831 (by decide) ?_
  refine k_callV (x := 54) (mi2 := mX13_pass) (As := [.int (xs (i + 1))]) (rest := [.int r]) (n := 1) d_law_832 ml_X13_pass vl_X13_pass rl_X13_pass rfl rfl x_54 (Nat.le_of_ble_eq_true rfl) ?_
  refine Cal.imp ?_ k1
  rintro _ M2 ⟨rfl, hR2⟩
  refine ⟨_, rfl, ?_⟩
  show Lw l D ad kA b L xs 835 (loL ad b i) [.int r, .int r] M2
  exact k_same (tgt := 1038) d_law_835 (by decide) (K M2 hR2)
theorem lc_26 (hL : L ≤ 3072) (hi : i + 6 ≤ L) (hR : Rel M) (K : ∀ M2, Rel M2 → Lw l D ad kA b L xs 1038 (loL ad b i) [] M2) : Lw l D ad kA b L xs 840 (loL ad b i) [] M := by -- away
  refine k_aload d_law_840 rfl ?_
  refine k_arg (k := 1) hL hi (by decide) d_law_841 d_law_842 d_law_843 d_law_844 d_law_845 (by decide) ?_
  refine k_arg (k := 2) hL hi (by decide) d_law_846 d_law_847 d_law_848 d_law_849 d_law_850 (by decide) ?_
  refine k_arg (k := 3) hL hi (by decide) d_law_851 d_law_852 d_law_853 d_law_854 d_law_855 (by decide) ?_
  refine k_callV (x := 0) (mi2 := mX11_away) (As := [.int (xs (i + 1)), .int (xs (i + 2)), .int (xs (i + 3))]) (rest := []) (n := 3) d_law_856 ml_X11_away vl_X11_away rl_X11_away rfl rfl x_0 (Nat.le_of_ble_eq_true rfl) ?_
  refine Cal.imp ?_ (kp_away hR)
  rintro _ M1 ⟨r, rfl, k1⟩
  refine ⟨_, rfl, ?_⟩
  show Lw l D ad kA b L xs 859 (loL ad b i) [.int r] M1
  refine k_aload d_law_859 rfl ?_
  refine k_arg (k := 1) hL hi (by decide) d_law_860 d_law_861 d_law_862 d_law_863 d_law_864 (by decide) ?_
  refine k_arg (k := 2) hL hi (by decide) d_law_865 d_law_866 d_law_867 d_law_868 d_law_869 (by decide) ?_
  refine k_arg (k := 3) hL hi (by decide) d_law_870 d_law_871 d_law_872 d_law_873 d_law_874 (by decide) ?_
  refine k_callV (x := 54) (mi2 := mX13_away) (As := [.int (xs (i + 1)), .int (xs (i + 2)), .int (xs (i + 3))]) (rest := [.int r]) (n := 3) d_law_875 ml_X13_away vl_X13_away rl_X13_away rfl rfl x_54 (Nat.le_of_ble_eq_true rfl) ?_
  refine Cal.imp ?_ k1
  rintro _ M2 ⟨rfl, hR2⟩
  refine ⟨_, rfl, ?_⟩
  show Lw l D ad kA b L xs 878 (loL ad b i) [.int r, .int r] M2
  exact k_same (tgt := 1038) d_law_878 (by decide) (K M2 hR2)
theorem lc_27 (hL : L ≤ 3072) (hi : i + 6 ≤ L) (hR : Rel M) (K : ∀ M2, Rel M2 → Lw l D ad kA b L xs 1038 (loL ad b i) [] M2) : Lw l D ad kA b L xs 883 (loL ad b i) [] M := by -- back
  refine k_aload d_law_883 rfl ?_
  refine k_arg (k := 1) hL hi (by decide) d_law_884 d_law_885 d_law_886 d_law_887 d_law_888 (by decide) ?_
  refine k_arg (k := 2) hL hi (by decide) d_law_889 d_law_890 d_law_891 d_law_892 d_law_893 (by decide) ?_
  refine k_callV (x := 0) (mi2 := mX11_back) (As := [.int (xs (i + 1)), .int (xs (i + 2))]) (rest := []) (n := 2) d_law_894 ml_X11_back vl_X11_back rl_X11_back rfl rfl x_0 (Nat.le_of_ble_eq_true rfl) ?_
  refine Cal.imp ?_ (kp_back hR)
  rintro _ M1 ⟨r, rfl, k1⟩
  refine ⟨_, rfl, ?_⟩
  show Lw l D ad kA b L xs 897 (loL ad b i) [.int r] M1
  refine k_aload d_law_897 rfl ?_
  refine k_arg (k := 1) hL hi (by decide) d_law_898 d_law_899 d_law_900 d_law_901 d_law_902 (by decide) ?_
  refine k_arg (k := 2) hL hi (by decide) d_law_903 d_law_904 d_law_905 d_law_906 d_law_907 (by decide) ?_
  refine k_callV (x := 54) (mi2 := mX13_back) (As := [.int (xs (i + 1)), .int (xs (i + 2))]) (rest := [.int r]) (n := 2) d_law_908 ml_X13_back vl_X13_back rl_X13_back rfl rfl x_54 (Nat.le_of_ble_eq_true rfl) ?_
  refine Cal.imp ?_ k1
  rintro _ M2 ⟨rfl, hR2⟩
  refine ⟨_, rfl, ?_⟩
  show Lw l D ad kA b L xs 911 (loL ad b i) [.int r, .int r] M2
  exact k_same (tgt := 1038) d_law_911 (by decide) (K M2 hR2)
theorem lc_28 (hL : L ≤ 3072) (hi : i + 6 ≤ L) (hR : Rel M) (K : ∀ M2, Rel M2 → Lw l D ad kA b L xs 1038 (loL ad b i) [] M2) : Lw l D ad kA b L xs 916 (loL ad b i) [] M := by -- there
  refine k_aload d_law_916 rfl ?_
  refine k_arg (k := 1) hL hi (by decide) d_law_917 d_law_918 d_law_919 d_law_920 d_law_921 (by decide) ?_
  refine k_arg (k := 2) hL hi (by decide) d_law_922 d_law_923 d_law_924 d_law_925 d_law_926 (by decide) ?_
  refine k_arg (k := 3) hL hi (by decide) d_law_927 d_law_928 d_law_929 d_law_930 d_law_931 (by decide) ?_
  refine k_callV (x := 0) (mi2 := mX11_there) (As := [.int (xs (i + 1)), .int (xs (i + 2)), .int (xs (i + 3))]) (rest := []) (n := 3) d_law_932 ml_X11_there vl_X11_there rl_X11_there rfl rfl x_0 (Nat.le_of_ble_eq_true rfl) ?_
  refine Cal.imp ?_ (kp_there hR)
  rintro _ M1 ⟨r, rfl, k1⟩
  refine ⟨_, rfl, ?_⟩
  show Lw l D ad kA b L xs 935 (loL ad b i) [.int r] M1
  refine k_aload d_law_935 rfl ?_
  refine k_arg (k := 1) hL hi (by decide) d_law_936 d_law_937 d_law_938 d_law_939 d_law_940 (by decide) ?_
  refine k_arg (k := 2) hL hi (by decide) d_law_941 d_law_942 d_law_943 d_law_944 d_law_945 (by decide) ?_
  refine k_arg (k := 3) hL hi (by decide) d_law_946 d_law_947 d_law_948 d_law_949 d_law_950 (by decide) ?_
  refine k_callV (x := 54) (mi2 := mX13_there) (As := [.int (xs (i + 1)), .int (xs (i + 2)), .int (xs (i + 3))]) (rest := [.int r]) (n := 3) d_law_951 ml_X13_there vl_X13_there rl_X13_there rfl rfl x_54 (Nat.le_of_ble_eq_true rfl) ?_
  refine Cal.imp ?_ k1
  rintro _ M2 ⟨rfl, hR2⟩
  refine ⟨_, rfl, ?_⟩
  show Lw l D ad kA b L xs 954 (loL ad b i) [.int r, .int r] M2
  exact k_same (tgt := 1038) d_law_954 (by decide) (K M2 hR2)
theorem lc_29 (hL : L ≤ 3072) (hi : i + 6 ≤ L) (hR : Rel M) (K : ∀ M2, Rel M2 → Lw l D ad kA b L xs 1038 (loL ad b i) [] M2) : Lw l D ad kA b L xs 959 (loL ad b i) [] M := by -- key
  refine k_aload d_law_959 rfl ?_
  refine k_arg (k := 1) hL hi (by decide) d_law_960 d_law_961 d_law_962 d_law_963 d_law_964 (by decide) ?_
  refine k_arg (k := 2) hL hi (by decide) d_law_965 d_law_966 d_law_967 d_law_968 d_law_969 (by decide) ?_
  refine k_callV (x := 0) (mi2 := mX11_key) (As := [.int (xs (i + 1)), .int (xs (i + 2))]) (rest := []) (n := 2) d_law_970 ml_X11_key vl_X11_key rl_X11_key rfl rfl x_0 (Nat.le_of_ble_eq_true rfl) ?_
  refine Cal.imp ?_ (kp_key hR)
  rintro _ M1 ⟨r, rfl, k1⟩
  refine ⟨_, rfl, ?_⟩
  show Lw l D ad kA b L xs 973 (loL ad b i) [.int r] M1
  refine k_aload d_law_973 rfl ?_
  refine k_arg (k := 1) hL hi (by decide) d_law_974 d_law_975 d_law_976 d_law_977 d_law_978 (by decide) ?_
  refine k_arg (k := 2) hL hi (by decide) d_law_979 d_law_980 d_law_981 d_law_982 d_law_983 (by decide) ?_
  refine k_callV (x := 54) (mi2 := mX13_key) (As := [.int (xs (i + 1)), .int (xs (i + 2))]) (rest := [.int r]) (n := 2) d_law_984 ml_X13_key vl_X13_key rl_X13_key rfl rfl x_54 (Nat.le_of_ble_eq_true rfl) ?_
  refine Cal.imp ?_ k1
  rintro _ M2 ⟨rfl, hR2⟩
  refine ⟨_, rfl, ?_⟩
  show Lw l D ad kA b L xs 987 (loL ad b i) [.int r, .int r] M2
  exact k_same (tgt := 1038) d_law_987 (by decide) (K M2 hR2)
theorem lc_30 (hL : L ≤ 3072) (hi : i + 6 ≤ L) (hR : Rel M) (K : ∀ M2, Rel M2 → Lw l D ad kA b L xs 1038 (loL ad b i) [] M2) : Lw l D ad kA b L xs 992 (loL ad b i) [] M := by -- keyed
  refine k_aload d_law_992 rfl ?_
  refine k_arg (k := 1) hL hi (by decide) d_law_993 d_law_994 d_law_995 d_law_996 d_law_997 (by decide) ?_
  refine k_callV (x := 0) (mi2 := mX11_keyed) (As := [.int (xs (i + 1))]) (rest := []) (n := 1) d_law_998 ml_X11_keyed vl_X11_keyed rl_X11_keyed rfl rfl x_0 (Nat.le_of_ble_eq_true rfl) ?_
  refine Cal.imp ?_ (kp_keyed hR)
  rintro _ M1 ⟨r, rfl, k1⟩
  refine ⟨_, rfl, ?_⟩
  show Lw l D ad kA b L xs 1001 (loL ad b i) [.int r] M1
  refine k_aload d_law_1001 rfl ?_
  refine k_arg (k := 1) hL hi (by decide) d_law_1002 d_law_1003 d_law_1004 d_law_1005 d_law_1006 (by decide) ?_
  refine k_callV (x := 54) (mi2 := mX13_keyed) (As := [.int (xs (i + 1))]) (rest := [.int r]) (n := 1) d_law_1007 ml_X13_keyed vl_X13_keyed rl_X13_keyed rfl rfl x_54 (Nat.le_of_ble_eq_true rfl) ?_
  refine Cal.imp ?_ k1
  rintro _ M2 ⟨rfl, hR2⟩
  refine ⟨_, rfl, ?_⟩
  show Lw l D ad kA b L xs 1010 (loL ad b i) [.int r, .int r] M2
  exact k_same (tgt := 1038) d_law_1010 (by decide) (K M2 hR2)
theorem lc_31 (hL : L ≤ 3072) (hi : i + 6 ≤ L) (hR : Rel M) (K : ∀ M2, Rel M2 → Lw l D ad kA b L xs 1038 (loL ad b i) [] M2) : Lw l D ad kA b L xs 1015 (loL ad b i) [] M := by -- count
  refine k_aload d_law_1015 rfl ?_
  refine k_arg (k := 1) hL hi (by decide) d_law_1016 d_law_1017 d_law_1018 d_law_1019 d_law_1020 (by decide) ?_
  refine k_callV (x := 0) (mi2 := mX11_count) (As := [.int (xs (i + 1))]) (rest := []) (n := 1) d_law_1021 ml_X11_count vl_X11_count rl_X11_count rfl rfl x_0 (Nat.le_of_ble_eq_true rfl) ?_
  refine Cal.imp ?_ (kp_count hR)
  rintro _ M1 ⟨r, rfl, k1⟩
  refine ⟨_, rfl, ?_⟩
  show Lw l D ad kA b L xs 1024 (loL ad b i) [.int r] M1
  refine k_aload d_law_1024 rfl ?_
  refine k_arg (k := 1) hL hi (by decide) d_law_1025 d_law_1026 d_law_1027 d_law_1028 d_law_1029 (by decide) ?_
  refine k_callV (x := 54) (mi2 := mX13_count) (As := [.int (xs (i + 1))]) (rest := [.int r]) (n := 1) d_law_1030 ml_X13_count vl_X13_count rl_X13_count rfl rfl x_54 (Nat.le_of_ble_eq_true rfl) ?_
  refine Cal.imp ?_ k1
  rintro _ M2 ⟨rfl, hR2⟩
  refine ⟨_, rfl, ?_⟩
  show Lw l D ad kA b L xs 1033 (loL ad b i) [.int r, .int r] M2
  exact k_same (tgt := 1038) d_law_1033 (by decide) (K M2 hR2)
end Law3
