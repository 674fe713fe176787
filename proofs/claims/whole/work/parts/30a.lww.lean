theorem gAH {a b c w : Cond} (h1 : a ∈ lwG) (h2 : b ∈ lwG) (h3 : c ∈ lwG) (h4 : w ∈ lwG) : GoodIn lwG ([a, b, c] ++ (w :: lwG)) := by
  intro x hx
  have hm : x ∈ lwG := by
    simp only [List.cons_append, List.nil_append, List.mem_cons] at hx
    rcases hx with rfl | rfl | rfl | rfl | hx
    · exact h1
    · exact h2
    · exact h3
    · exact h4
    · exact hx
  exact ⟨hm, lwG_good x hm⟩
theorem wc_X11_ahead : Cond.code yX11_ahead cX11_ahead 4 (some .int) ∈ lwG := lwT_in (i := 1354) (by decide +kernel) (by decide +kernel)
theorem wc_X11_anniversary : Cond.code yX11_anniversary cX11_anniversary 2 (some .int) ∈ lwG := lwT_in (i := 1520) (by decide +kernel) (by decide +kernel)
theorem wc_X11_ask : Cond.code yX11_ask cX11_ask 3 (some .boolean) ∈ lwG := lwT_in (i := 1184) (by decide +kernel) (by decide +kernel)
theorem wc_X11_back : Cond.code yX11_back cX11_back 1 (some .boolean) ∈ lwG := lwT_in (i := 656) (by decide +kernel) (by decide +kernel)
theorem wc_X11_best : Cond.code yX11_best cX11_best 2 (some .int) ∈ lwG := lwT_in (i := 1322) (by decide +kernel) (by decide +kernel)
theorem wc_X11_count : Cond.code yX11_count cX11_count 2 (some .int) ∈ lwG := lwT_in (i := 664) (by decide +kernel) (by decide +kernel)
theorem wc_X11_dance : Cond.code yX11_dance cX11_dance 1 (some .int) ∈ lwG := lwT_in (i := 1558) (by decide +kernel) (by decide +kernel)
theorem wc_X11_end : Cond.code yX11_end cX11_end 2 (some .boolean) ∈ lwG := lwT_in (i := 456) (by decide +kernel) (by decide +kernel)
theorem wc_X11_falls : Cond.code yX11_falls cX11_falls 1 (some .int) ∈ lwG := lwT_in (i := 464) (by decide +kernel) (by decide +kernel)
theorem wc_X11_fault : Cond.code yX11_fault cX11_fault 1 (some .int) ∈ lwG := lwT_in (i := 460) (by decide +kernel) (by decide +kernel)
theorem wc_X11_feed : Cond.code yX11_feed cX11_feed 6 (some .int) ∈ lwG := lwT_in (i := 444) (by decide +kernel) (by decide +kernel)
theorem wc_X11_first : Cond.code yX11_first cX11_first 3 (some .int) ∈ lwG := lwT_in (i := 1375) (by decide +kernel) (by decide +kernel)
theorem wc_X11_gift : Cond.code yX11_gift cX11_gift 3 (some .int) ∈ lwG := lwT_in (i := 1223) (by decide +kernel) (by decide +kernel)
theorem wc_X11_gifts : Cond.code yX11_gifts cX11_gifts 4 (some .int) ∈ lwG := lwT_in (i := 1447) (by decide +kernel) (by decide +kernel)
theorem wc_X11_holds : Cond.code yX11_holds cX11_holds 2 (some .int) ∈ lwG := lwT_in (i := 1410) (by decide +kernel) (by decide +kernel)
theorem wc_X11_image : Cond.code yX11_image cX11_image 1 none ∈ lwG := lwT_in (i := 645) (by decide +kernel) (by decide +kernel)
theorem wc_X11_law : Cond.code yX11_law cX11_law 2 (some .int) ∈ lwG := lwT_in (i := 1059) (by decide +kernel) (by decide +kernel)
theorem wc_X11_leans : Cond.code yX11_leans cX11_leans 2 (some .int) ∈ lwG := lwT_in (i := 1432) (by decide +kernel) (by decide +kernel)
theorem wc_X11_led : Cond.code yX11_led cX11_led 3 (some .int) ∈ lwG := lwT_in (i := 1593) (by decide +kernel) (by decide +kernel)
theorem wc_X11_liking : Cond.code yX11_liking cX11_liking 3 (some .int) ∈ lwG := lwT_in (i := 1129) (by decide +kernel) (by decide +kernel)
theorem wc_X11_log : Cond.code yX11_log cX11_log 3 (some .int) ∈ lwG := lwT_in (i := 1613) (by decide +kernel) (by decide +kernel)
theorem wc_X11_loses : Cond.code yX11_loses cX11_loses 2 (some .int) ∈ lwG := lwT_in (i := 1397) (by decide +kernel) (by decide +kernel)
theorem wc_X11_lovers : Cond.code yX11_lovers cX11_lovers 2 (some .int) ∈ lwG := lwT_in (i := 570) (by decide +kernel) (by decide +kernel)
theorem wc_X11_match : Cond.code yX11_match cX11_match 3 (some .int) ∈ lwG := lwT_in (i := 1142) (by decide +kernel) (by decide +kernel)
theorem wc_X11_meddle : Cond.code yX11_meddle cX11_meddle 3 (some .int) ∈ lwG := lwT_in (i := 1251) (by decide +kernel) (by decide +kernel)
theorem wc_X11_months : Cond.code yX11_months cX11_months 4 (some .int) ∈ lwG := lwT_in (i := 1276) (by decide +kernel) (by decide +kernel)
theorem wc_X11_next : Cond.code yX11_next cX11_next 3 (some .int) ∈ lwG := lwT_in (i := 1338) (by decide +kernel) (by decide +kernel)
theorem wc_X11_odds : Cond.code yX11_odds cX11_odds 2 (some .int) ∈ lwG := lwT_in (i := 1386) (by decide +kernel) (by decide +kernel)
theorem wc_X11_part : Cond.code yX11_part cX11_part 2 (some .int) ∈ lwG := lwT_in (i := 1265) (by decide +kernel) (by decide +kernel)
theorem wc_X11_person : Cond.code yX11_person cX11_person 3 (some .int) ∈ lwG := lwT_in (i := 1076) (by decide +kernel) (by decide +kernel)
theorem wc_X11_rather : Cond.code yX11_rather cX11_rather 2 (some .int) ∈ lwG := lwT_in (i := 1473) (by decide +kernel) (by decide +kernel)
theorem wc_X11_reinsure : Cond.code yX11_reinsure cX11_reinsure 4 (some .int) ∈ lwG := lwT_in (i := 1258) (by decide +kernel) (by decide +kernel)
theorem wc_X11_richest : Cond.code yX11_richest cX11_richest 1 (some .int) ∈ lwG := lwT_in (i := 624) (by decide +kernel) (by decide +kernel)
theorem wc_X11_ring : Cond.code yX11_ring cX11_ring 2 (some .int) ∈ lwG := lwT_in (i := 1424) (by decide +kernel) (by decide +kernel)
theorem wc_X11_rings : Cond.code yX11_rings cX11_rings 1 (some .int) ∈ lwG := lwT_in (i := 554) (by decide +kernel) (by decide +kernel)
theorem wc_X11_seed : Cond.code yX11_seed cX11_seed 3 (some .int) ∈ lwG := lwT_in (i := 632) (by decide +kernel) (by decide +kernel)
theorem wc_X11_span : Cond.code yX11_span cX11_span 6 (some .int) ∈ lwG := lwT_in (i := 1586) (by decide +kernel) (by decide +kernel)
theorem wc_X11_steady : Cond.code yX11_steady cX11_steady 2 (some .int) ∈ lwG := lwT_in (i := 1481) (by decide +kernel) (by decide +kernel)
theorem wc_X11_town : Cond.code yX11_town cX11_town 1 (some .int) ∈ lwG := lwT_in (i := 686) (by decide +kernel) (by decide +kernel)
theorem wc_X11_trial : Cond.code yX11_trial cX11_trial 4 (some .int) ∈ lwG := lwT_in (i := 1570) (by decide +kernel) (by decide +kernel)
theorem wc_X11_undo : Cond.code yX11_undo cX11_undo 2 (some .boolean) ∈ lwG := lwT_in (i := 636) (by decide +kernel) (by decide +kernel)
theorem wc_X11_wed : Cond.code yX11_wed cX11_wed 3 (some .int) ∈ lwG := lwT_in (i := 1197) (by decide +kernel) (by decide +kernel)
theorem wc_X11_weddings : Cond.code yX11_weddings cX11_weddings 1 (some .int) ∈ lwG := lwT_in (i := 600) (by decide +kernel) (by decide +kernel)
theorem wc_X11_would : Cond.code yX11_would cX11_would 3 (some .int) ∈ lwG := lwT_in (i := 1314) (by decide +kernel) (by decide +kernel)
theorem wc_X12_ahead : Cond.code yX12_ahead cX12_ahead 5 (some .int) ∈ lwG := lwT_in (i := 2031) (by decide +kernel) (by decide +kernel)
theorem wc_X12_anniversary : Cond.code yX12_anniversary cX12_anniversary 5 (some .int) ∈ lwG := lwT_in (i := 2136) (by decide +kernel) (by decide +kernel)
theorem wc_X12_ask : Cond.code yX12_ask cX12_ask 4 (some .boolean) ∈ lwG := lwT_in (i := 1936) (by decide +kernel) (by decide +kernel)
theorem wc_X12_back : Cond.code yX12_back cX12_back 2 (some .boolean) ∈ lwG := lwT_in (i := 2192) (by decide +kernel) (by decide +kernel)
theorem wc_X12_best : Cond.code yX12_best cX12_best 5 (some .int) ∈ lwG := lwT_in (i := 2019) (by decide +kernel) (by decide +kernel)
theorem wc_X12_count : Cond.code yX12_count cX12_count 2 (some .int) ∈ lwG := lwT_in (i := 2196) (by decide +kernel) (by decide +kernel)
theorem wc_X12_dance : Cond.code yX12_dance cX12_dance 6 (some .int) ∈ lwG := lwT_in (i := 2148) (by decide +kernel) (by decide +kernel)
theorem wc_X12_end : Cond.code yX12_end cX12_end 2 (some .boolean) ∈ lwG := lwT_in (i := 1707) (by decide +kernel) (by decide +kernel)
theorem wc_X12_falls : Cond.code yX12_falls cX12_falls 2 (some .int) ∈ lwG := lwT_in (i := 2047) (by decide +kernel) (by decide +kernel)
theorem wc_X12_fault : Cond.code yX12_fault cX12_fault 1 (some .int) ∈ lwG := lwT_in (i := 1878) (by decide +kernel) (by decide +kernel)
theorem wc_X12_feed : Cond.code yX12_feed cX12_feed 8 (some .int) ∈ lwG := lwT_in (i := 1703) (by decide +kernel) (by decide +kernel)
theorem wc_X12_first : Cond.code yX12_first cX12_first 5 (some .int) ∈ lwG := lwT_in (i := 2039) (by decide +kernel) (by decide +kernel)
theorem wc_X12_gift : Cond.code yX12_gift cX12_gift 3 (some .int) ∈ lwG := lwT_in (i := 1948) (by decide +kernel) (by decide +kernel)
theorem wc_X12_gifts : Cond.code yX12_gifts cX12_gifts 6 (some .int) ∈ lwG := lwT_in (i := 2083) (by decide +kernel) (by decide +kernel)
theorem wc_X12_holds : Cond.code yX12_holds cX12_holds 4 (some .int) ∈ lwG := lwT_in (i := 2059) (by decide +kernel) (by decide +kernel)
theorem wc_X12_image : Cond.code yX12_image cX12_image 2 none ∈ lwG := lwT_in (i := 2188) (by decide +kernel) (by decide +kernel)
theorem wc_X12_law : Cond.code yX12_law cX12_law 3 (some .int) ∈ lwG := lwT_in (i := 1874) (by decide +kernel) (by decide +kernel)
theorem wc_X12_leans : Cond.code yX12_leans cX12_leans 4 (some .int) ∈ lwG := lwT_in (i := 2079) (by decide +kernel) (by decide +kernel)
theorem wc_X12_led : Cond.code yX12_led cX12_led 5 (some .int) ∈ lwG := lwT_in (i := 2168) (by decide +kernel) (by decide +kernel)
theorem wc_X12_liking : Cond.code yX12_liking cX12_liking 3 (some .int) ∈ lwG := lwT_in (i := 1901) (by decide +kernel) (by decide +kernel)
theorem wc_X12_log : Cond.code yX12_log cX12_log 3 (some .int) ∈ lwG := lwT_in (i := 2176) (by decide +kernel) (by decide +kernel)
theorem wc_X12_loses : Cond.code yX12_loses cX12_loses 4 (some .int) ∈ lwG := lwT_in (i := 2055) (by decide +kernel) (by decide +kernel)
theorem wc_X12_lovers : Cond.code yX12_lovers cX12_lovers 6 (some .int) ∈ lwG := lwT_in (i := 2108) (by decide +kernel) (by decide +kernel)
theorem wc_X12_match : Cond.code yX12_match cX12_match 3 (some .int) ∈ lwG := lwT_in (i := 1913) (by decide +kernel) (by decide +kernel)
theorem wc_X12_meddle : Cond.code yX12_meddle cX12_meddle 3 (some .int) ∈ lwG := lwT_in (i := 1959) (by decide +kernel) (by decide +kernel)
theorem wc_X12_months : Cond.code yX12_months cX12_months 2 (some .int) ∈ lwG := lwT_in (i := 1974) (by decide +kernel) (by decide +kernel)
theorem wc_X12_next : Cond.code yX12_next cX12_next 3 (some .int) ∈ lwG := lwT_in (i := 2023) (by decide +kernel) (by decide +kernel)
theorem wc_X12_odds : Cond.code yX12_odds cX12_odds 4 (some .int) ∈ lwG := lwT_in (i := 2043) (by decide +kernel) (by decide +kernel)
theorem wc_X12_part_ : Cond.code yX12_part_ cX12_part_ 2 (some .int) ∈ lwG := lwT_in (i := 1970) (by decide +kernel) (by decide +kernel)
theorem wc_X12_person : Cond.code yX12_person cX12_person 3 (some .int) ∈ lwG := lwT_in (i := 1882) (by decide +kernel) (by decide +kernel)
theorem wc_X12_rather : Cond.code yX12_rather cX12_rather 2 (some .int) ∈ lwG := lwT_in (i := 2100) (by decide +kernel) (by decide +kernel)
theorem wc_X12_reinsure : Cond.code yX12_reinsure cX12_reinsure 4 (some .int) ∈ lwG := lwT_in (i := 1966) (by decide +kernel) (by decide +kernel)
theorem wc_X12_richest : Cond.code yX12_richest cX12_richest 3 (some .int) ∈ lwG := lwT_in (i := 2152) (by decide +kernel) (by decide +kernel)
theorem wc_X12_ring : Cond.code yX12_ring cX12_ring 2 (some .int) ∈ lwG := lwT_in (i := 2063) (by decide +kernel) (by decide +kernel)
theorem wc_X12_rings : Cond.code yX12_rings cX12_rings 5 (some .int) ∈ lwG := lwT_in (i := 2071) (by decide +kernel) (by decide +kernel)
theorem wc_X12_seed : Cond.code yX12_seed cX12_seed 3 (some .int) ∈ lwG := lwT_in (i := 2180) (by decide +kernel) (by decide +kernel)
theorem wc_X12_span : Cond.code yX12_span cX12_span 6 (some .int) ∈ lwG := lwT_in (i := 2164) (by decide +kernel) (by decide +kernel)
theorem wc_X12_steady : Cond.code yX12_steady cX12_steady 3 (some .int) ∈ lwG := lwT_in (i := 2112) (by decide +kernel) (by decide +kernel)
theorem wc_X12_thrown : Cond.code yX12_thrown cX12_thrown 1 (some .int) ∈ lwG := lwT_in (i := 1699) (by decide +kernel) (by decide +kernel)
theorem wc_X12_town : Cond.code yX12_town cX12_town 2 (some .int) ∈ lwG := lwT_in (i := 1714) (by decide +kernel) (by decide +kernel)
theorem wc_X12_trial : Cond.code yX12_trial cX12_trial 5 (some .int) ∈ lwG := lwT_in (i := 2156) (by decide +kernel) (by decide +kernel)
theorem wc_X12_undo : Cond.code yX12_undo cX12_undo 2 (some .boolean) ∈ lwG := lwT_in (i := 2184) (by decide +kernel) (by decide +kernel)
theorem wc_X12_wed : Cond.code yX12_wed cX12_wed 3 (some .int) ∈ lwG := lwT_in (i := 1944) (by decide +kernel) (by decide +kernel)
theorem wc_X12_weddings : Cond.code yX12_weddings cX12_weddings 7 (some .int) ∈ lwG := lwT_in (i := 2128) (by decide +kernel) (by decide +kernel)
theorem wc_X12_would : Cond.code yX12_would cX12_would 3 (some .int) ∈ lwG := lwT_in (i := 2015) (by decide +kernel) (by decide +kernel)
theorem wcw_L_ahead : Cond.codeWith yL_ahead cL_ahead 6 (some .int) [(0, 12, 15, 24), (0, 12, 19, 13)] ∈ lwG := lwT_in (i := 1350) (by decide +kernel) (by decide +kernel)
theorem wcw_L_anniversary : Cond.codeWith yL_anniversary cL_anniversary 4 (some .int) [(0, 9, 12, 13)] ∈ lwG := lwT_in (i := 1516) (by decide +kernel) (by decide +kernel)
theorem wcw_L_ask : Cond.codeWith yL_ask cL_ask 5 (some .int) [(0, 17, 20, 24), (0, 17, 24, 13)] ∈ lwG := lwT_in (i := 1180) (by decide +kernel) (by decide +kernel)
theorem wcw_L_best : Cond.codeWith yL_best cL_best 4 (some .int) [(0, 9, 12, 24)] ∈ lwG := lwT_in (i := 1318) (by decide +kernel) (by decide +kernel)
theorem wcw_L_dance : Cond.codeWith yL_dance cL_dance 3 (some .int) [(0, 8, 11, 13)] ∈ lwG := lwT_in (i := 1554) (by decide +kernel) (by decide +kernel)
theorem wcw_L_first : Cond.codeWith yL_first cL_first 5 (some .int) [(0, 10, 13, 24), (0, 10, 17, 13)] ∈ lwG := lwT_in (i := 1371) (by decide +kernel) (by decide +kernel)
theorem wcw_L_gift : Cond.codeWith yL_gift cL_gift 5 (some .int) [(0, 10, 13, 24), (0, 10, 17, 41)] ∈ lwG := lwT_in (i := 1219) (by decide +kernel) (by decide +kernel)
theorem wcw_L_gifts : Cond.codeWith yL_gifts cL_gifts 6 (some .int) [(0, 12, 15, 24), (0, 12, 19, 13)] ∈ lwG := lwT_in (i := 1443) (by decide +kernel) (by decide +kernel)
theorem wcw_L_holds : Cond.codeWith yL_holds cL_holds 4 (some .int) [(0, 9, 12, 24)] ∈ lwG := lwT_in (i := 1406) (by decide +kernel) (by decide +kernel)
theorem wcw_L_law : Cond.codeWith yL_law cL_law 3 (some .int) [(0, 8, 11, 13)] ∈ lwG := lwT_in (i := 1055) (by decide +kernel) (by decide +kernel)
theorem wcw_L_leans : Cond.codeWith yL_leans cL_leans 4 (some .int) [(0, 9, 12, 24)] ∈ lwG := lwT_in (i := 1428) (by decide +kernel) (by decide +kernel)
theorem wcw_L_led : Cond.codeWith yL_led cL_led 5 (some .int) [(0, 10, 13, 24)] ∈ lwG := lwT_in (i := 1589) (by decide +kernel) (by decide +kernel)
theorem wcw_L_liking : Cond.codeWith yL_liking cL_liking 5 (some .int) [(0, 10, 13, 24), (0, 10, 17, 13)] ∈ lwG := lwT_in (i := 1125) (by decide +kernel) (by decide +kernel)
theorem wcw_L_log : Cond.codeWith yL_log cL_log 5 (some .int) [(0, 10, 13, 26)] ∈ lwG := lwT_in (i := 1609) (by decide +kernel) (by decide +kernel)
theorem wcw_L_loses : Cond.codeWith yL_loses cL_loses 4 (some .int) [(0, 9, 12, 24)] ∈ lwG := lwT_in (i := 1393) (by decide +kernel) (by decide +kernel)
theorem wcw_L_match : Cond.codeWith yL_match cL_match 5 (some .int) [(0, 10, 13, 24), (0, 10, 17, 26)] ∈ lwG := lwT_in (i := 1138) (by decide +kernel) (by decide +kernel)
theorem wcw_L_meddle : Cond.codeWith yL_meddle cL_meddle 5 (some .int) [(0, 10, 13, 24), (0, 10, 17, 41)] ∈ lwG := lwT_in (i := 1247) (by decide +kernel) (by decide +kernel)
theorem wcw_L_months : Cond.codeWith yL_months cL_months 4 (some .int) [(0, 9, 12, 13)] ∈ lwG := lwT_in (i := 1272) (by decide +kernel) (by decide +kernel)
theorem wcw_L_next : Cond.codeWith yL_next cL_next 5 (some .int) [(0, 10, 13, 24), (0, 10, 17, 13)] ∈ lwG := lwT_in (i := 1334) (by decide +kernel) (by decide +kernel)
theorem wcw_L_odds : Cond.codeWith yL_odds cL_odds 4 (some .int) [(0, 9, 12, 24)] ∈ lwG := lwT_in (i := 1382) (by decide +kernel) (by decide +kernel)
theorem wcw_L_part : Cond.codeWith yL_part cL_part 4 (some .int) [(0, 9, 12, 24), (0, 9, 15, 41)] ∈ lwG := lwT_in (i := 1261) (by decide +kernel) (by decide +kernel)
theorem wcw_L_person : Cond.codeWith yL_person cL_person 5 (some .int) [(0, 10, 13, 24), (0, 10, 17, 26)] ∈ lwG := lwT_in (i := 1070) (by decide +kernel) (by decide +kernel)
theorem wcw_L_rather : Cond.codeWith yL_rather cL_rather 4 (some .int) [(0, 9, 12, 24)] ∈ lwG := lwT_in (i := 1469) (by decide +kernel) (by decide +kernel)
theorem wcw_L_reinsure : Cond.codeWith yL_reinsure cL_reinsure 5 (some .int) [(0, 10, 13, 24), (0, 10, 17, 13)] ∈ lwG := lwT_in (i := 1254) (by decide +kernel) (by decide +kernel)
theorem wcw_L_ring : Cond.codeWith yL_ring cL_ring 4 (some .int) [(0, 9, 12, 24)] ∈ lwG := lwT_in (i := 1420) (by decide +kernel) (by decide +kernel)
theorem wcw_L_span : Cond.codeWith yL_span cL_span 5 (some .int) [(0, 10, 13, 13)] ∈ lwG := lwT_in (i := 1582) (by decide +kernel) (by decide +kernel)
theorem wcw_L_steady : Cond.codeWith yL_steady cL_steady 4 (some .int) [(0, 9, 12, 24)] ∈ lwG := lwT_in (i := 1477) (by decide +kernel) (by decide +kernel)
theorem wcw_L_town : Cond.codeWith yL_town cL_town 3 (some .int) [(0, 8, 11, 13), (0, 8, 14, 15)] ∈ lwG := lwT_in (i := 680) (by decide +kernel) (by decide +kernel)
theorem wcw_L_trial : Cond.codeWith yL_trial cL_trial 5 (some .int) [(0, 10, 13, 13)] ∈ lwG := lwT_in (i := 1566) (by decide +kernel) (by decide +kernel)
theorem wcw_L_wed : Cond.codeWith yL_wed cL_wed 5 (some .int) [(0, 10, 13, 24), (0, 10, 17, 13), (0, 10, 21, 41), (0, 10, 25, 15)] ∈ lwG := lwT_in (i := 1192) (by decide +kernel) (by decide +kernel)
theorem wcw_L_would : Cond.codeWith yL_would cL_would 5 (some .int) [(0, 10, 13, 24), (0, 10, 17, 13)] ∈ lwG := lwT_in (i := 1310) (by decide +kernel) (by decide +kernel)
theorem wi_X11_ahead : Cond.instanceMethod yX11_ahead ∈ lwG := lwT_in (i := 1352) (by decide +kernel) (by decide +kernel)
theorem wi_X11_anniversary : Cond.instanceMethod yX11_anniversary ∈ lwG := lwT_in (i := 1518) (by decide +kernel) (by decide +kernel)
theorem wi_X11_ask : Cond.instanceMethod yX11_ask ∈ lwG := lwT_in (i := 1182) (by decide +kernel) (by decide +kernel)
theorem wi_X11_back : Cond.instanceMethod yX11_back ∈ lwG := lwT_in (i := 654) (by decide +kernel) (by decide +kernel)
theorem wi_X11_best : Cond.instanceMethod yX11_best ∈ lwG := lwT_in (i := 1320) (by decide +kernel) (by decide +kernel)
theorem wi_X11_count : Cond.instanceMethod yX11_count ∈ lwG := lwT_in (i := 662) (by decide +kernel) (by decide +kernel)
theorem wi_X11_dance : Cond.instanceMethod yX11_dance ∈ lwG := lwT_in (i := 1556) (by decide +kernel) (by decide +kernel)
theorem wi_X11_end : Cond.instanceMethod yX11_end ∈ lwG := lwT_in (i := 454) (by decide +kernel) (by decide +kernel)
theorem wi_X11_falls : Cond.instanceMethod yX11_falls ∈ lwG := lwT_in (i := 462) (by decide +kernel) (by decide +kernel)
theorem wi_X11_fault : Cond.instanceMethod yX11_fault ∈ lwG := lwT_in (i := 458) (by decide +kernel) (by decide +kernel)
theorem wi_X11_feed : Cond.instanceMethod yX11_feed ∈ lwG := lwT_in (i := 442) (by decide +kernel) (by decide +kernel)
theorem wi_X11_first : Cond.instanceMethod yX11_first ∈ lwG := lwT_in (i := 1373) (by decide +kernel) (by decide +kernel)
theorem wi_X11_gift : Cond.instanceMethod yX11_gift ∈ lwG := lwT_in (i := 1221) (by decide +kernel) (by decide +kernel)
theorem wi_X11_gifts : Cond.instanceMethod yX11_gifts ∈ lwG := lwT_in (i := 1445) (by decide +kernel) (by decide +kernel)
theorem wi_X11_holds : Cond.instanceMethod yX11_holds ∈ lwG := lwT_in (i := 1408) (by decide +kernel) (by decide +kernel)
theorem wi_X11_image : Cond.instanceMethod yX11_image ∈ lwG := lwT_in (i := 643) (by decide +kernel) (by decide +kernel)
theorem wi_X11_law : Cond.instanceMethod yX11_law ∈ lwG := lwT_in (i := 1057) (by decide +kernel) (by decide +kernel)
theorem wi_X11_leans : Cond.instanceMethod yX11_leans ∈ lwG := lwT_in (i := 1430) (by decide +kernel) (by decide +kernel)
theorem wi_X11_led : Cond.instanceMethod yX11_led ∈ lwG := lwT_in (i := 1591) (by decide +kernel) (by decide +kernel)
theorem wi_X11_liking : Cond.instanceMethod yX11_liking ∈ lwG := lwT_in (i := 1127) (by decide +kernel) (by decide +kernel)
theorem wi_X11_log : Cond.instanceMethod yX11_log ∈ lwG := lwT_in (i := 1611) (by decide +kernel) (by decide +kernel)
theorem wi_X11_loses : Cond.instanceMethod yX11_loses ∈ lwG := lwT_in (i := 1395) (by decide +kernel) (by decide +kernel)
theorem wi_X11_lovers : Cond.instanceMethod yX11_lovers ∈ lwG := lwT_in (i := 568) (by decide +kernel) (by decide +kernel)
theorem wi_X11_match : Cond.instanceMethod yX11_match ∈ lwG := lwT_in (i := 1140) (by decide +kernel) (by decide +kernel)
theorem wi_X11_meddle : Cond.instanceMethod yX11_meddle ∈ lwG := lwT_in (i := 1249) (by decide +kernel) (by decide +kernel)
theorem wi_X11_months : Cond.instanceMethod yX11_months ∈ lwG := lwT_in (i := 1274) (by decide +kernel) (by decide +kernel)
theorem wi_X11_next : Cond.instanceMethod yX11_next ∈ lwG := lwT_in (i := 1336) (by decide +kernel) (by decide +kernel)
theorem wi_X11_odds : Cond.instanceMethod yX11_odds ∈ lwG := lwT_in (i := 1384) (by decide +kernel) (by decide +kernel)
theorem wi_X11_part : Cond.instanceMethod yX11_part ∈ lwG := lwT_in (i := 1263) (by decide +kernel) (by decide +kernel)
theorem wi_X11_person : Cond.instanceMethod yX11_person ∈ lwG := lwT_in (i := 1074) (by decide +kernel) (by decide +kernel)
theorem wi_X11_rather : Cond.instanceMethod yX11_rather ∈ lwG := lwT_in (i := 1471) (by decide +kernel) (by decide +kernel)
theorem wi_X11_reinsure : Cond.instanceMethod yX11_reinsure ∈ lwG := lwT_in (i := 1256) (by decide +kernel) (by decide +kernel)
theorem wi_X11_richest : Cond.instanceMethod yX11_richest ∈ lwG := lwT_in (i := 622) (by decide +kernel) (by decide +kernel)
theorem wi_X11_ring : Cond.instanceMethod yX11_ring ∈ lwG := lwT_in (i := 1422) (by decide +kernel) (by decide +kernel)
theorem wi_X11_rings : Cond.instanceMethod yX11_rings ∈ lwG := lwT_in (i := 552) (by decide +kernel) (by decide +kernel)
theorem wi_X11_seed : Cond.instanceMethod yX11_seed ∈ lwG := lwT_in (i := 630) (by decide +kernel) (by decide +kernel)
theorem wi_X11_span : Cond.instanceMethod yX11_span ∈ lwG := lwT_in (i := 1584) (by decide +kernel) (by decide +kernel)
theorem wi_X11_steady : Cond.instanceMethod yX11_steady ∈ lwG := lwT_in (i := 1479) (by decide +kernel) (by decide +kernel)
theorem wi_X11_town : Cond.instanceMethod yX11_town ∈ lwG := lwT_in (i := 684) (by decide +kernel) (by decide +kernel)
theorem wi_X11_trial : Cond.instanceMethod yX11_trial ∈ lwG := lwT_in (i := 1568) (by decide +kernel) (by decide +kernel)
theorem wi_X11_undo : Cond.instanceMethod yX11_undo ∈ lwG := lwT_in (i := 634) (by decide +kernel) (by decide +kernel)
theorem wi_X11_wed : Cond.instanceMethod yX11_wed ∈ lwG := lwT_in (i := 1195) (by decide +kernel) (by decide +kernel)
theorem wi_X11_weddings : Cond.instanceMethod yX11_weddings ∈ lwG := lwT_in (i := 598) (by decide +kernel) (by decide +kernel)
theorem wi_X11_would : Cond.instanceMethod yX11_would ∈ lwG := lwT_in (i := 1312) (by decide +kernel) (by decide +kernel)
theorem wi_X12_ahead : Cond.instanceMethod yX12_ahead ∈ lwG := lwT_in (i := 2029) (by decide +kernel) (by decide +kernel)
theorem wi_X12_anniversary : Cond.instanceMethod yX12_anniversary ∈ lwG := lwT_in (i := 2134) (by decide +kernel) (by decide +kernel)
theorem wi_X12_ask : Cond.instanceMethod yX12_ask ∈ lwG := lwT_in (i := 1934) (by decide +kernel) (by decide +kernel)
theorem wi_X12_back : Cond.instanceMethod yX12_back ∈ lwG := lwT_in (i := 2190) (by decide +kernel) (by decide +kernel)
theorem wi_X12_best : Cond.instanceMethod yX12_best ∈ lwG := lwT_in (i := 2017) (by decide +kernel) (by decide +kernel)
theorem wi_X12_count : Cond.instanceMethod yX12_count ∈ lwG := lwT_in (i := 2194) (by decide +kernel) (by decide +kernel)
theorem wi_X12_dance : Cond.instanceMethod yX12_dance ∈ lwG := lwT_in (i := 2146) (by decide +kernel) (by decide +kernel)
theorem wi_X12_end : Cond.instanceMethod yX12_end ∈ lwG := lwT_in (i := 1705) (by decide +kernel) (by decide +kernel)
theorem wi_X12_falls : Cond.instanceMethod yX12_falls ∈ lwG := lwT_in (i := 2045) (by decide +kernel) (by decide +kernel)
theorem wi_X12_fault : Cond.instanceMethod yX12_fault ∈ lwG := lwT_in (i := 1876) (by decide +kernel) (by decide +kernel)
theorem wi_X12_feed : Cond.instanceMethod yX12_feed ∈ lwG := lwT_in (i := 1701) (by decide +kernel) (by decide +kernel)
theorem wi_X12_first : Cond.instanceMethod yX12_first ∈ lwG := lwT_in (i := 2037) (by decide +kernel) (by decide +kernel)
theorem wi_X12_gift : Cond.instanceMethod yX12_gift ∈ lwG := lwT_in (i := 1946) (by decide +kernel) (by decide +kernel)
theorem wi_X12_gifts : Cond.instanceMethod yX12_gifts ∈ lwG := lwT_in (i := 2081) (by decide +kernel) (by decide +kernel)
theorem wi_X12_holds : Cond.instanceMethod yX12_holds ∈ lwG := lwT_in (i := 2057) (by decide +kernel) (by decide +kernel)
theorem wi_X12_image : Cond.instanceMethod yX12_image ∈ lwG := lwT_in (i := 2186) (by decide +kernel) (by decide +kernel)
theorem wi_X12_law : Cond.instanceMethod yX12_law ∈ lwG := lwT_in (i := 1872) (by decide +kernel) (by decide +kernel)
theorem wi_X12_leans : Cond.instanceMethod yX12_leans ∈ lwG := lwT_in (i := 2077) (by decide +kernel) (by decide +kernel)
theorem wi_X12_led : Cond.instanceMethod yX12_led ∈ lwG := lwT_in (i := 2166) (by decide +kernel) (by decide +kernel)
theorem wi_X12_liking : Cond.instanceMethod yX12_liking ∈ lwG := lwT_in (i := 1899) (by decide +kernel) (by decide +kernel)
theorem wi_X12_log : Cond.instanceMethod yX12_log ∈ lwG := lwT_in (i := 2174) (by decide +kernel) (by decide +kernel)
theorem wi_X12_loses : Cond.instanceMethod yX12_loses ∈ lwG := lwT_in (i := 2053) (by decide +kernel) (by decide +kernel)
theorem wi_X12_lovers : Cond.instanceMethod yX12_lovers ∈ lwG := lwT_in (i := 2106) (by decide +kernel) (by decide +kernel)
theorem wi_X12_match : Cond.instanceMethod yX12_match ∈ lwG := lwT_in (i := 1911) (by decide +kernel) (by decide +kernel)
theorem wi_X12_meddle : Cond.instanceMethod yX12_meddle ∈ lwG := lwT_in (i := 1957) (by decide +kernel) (by decide +kernel)
theorem wi_X12_months : Cond.instanceMethod yX12_months ∈ lwG := lwT_in (i := 1972) (by decide +kernel) (by decide +kernel)
theorem wi_X12_next : Cond.instanceMethod yX12_next ∈ lwG := lwT_in (i := 2021) (by decide +kernel) (by decide +kernel)
theorem wi_X12_odds : Cond.instanceMethod yX12_odds ∈ lwG := lwT_in (i := 2041) (by decide +kernel) (by decide +kernel)
theorem wi_X12_part_ : Cond.instanceMethod yX12_part_ ∈ lwG := lwT_in (i := 1968) (by decide +kernel) (by decide +kernel)
theorem wi_X12_person : Cond.instanceMethod yX12_person ∈ lwG := lwT_in (i := 1880) (by decide +kernel) (by decide +kernel)
theorem wi_X12_rather : Cond.instanceMethod yX12_rather ∈ lwG := lwT_in (i := 2098) (by decide +kernel) (by decide +kernel)
theorem wi_X12_reinsure : Cond.instanceMethod yX12_reinsure ∈ lwG := lwT_in (i := 1964) (by decide +kernel) (by decide +kernel)
theorem wi_X12_richest : Cond.instanceMethod yX12_richest ∈ lwG := lwT_in (i := 2150) (by decide +kernel) (by decide +kernel)
theorem wi_X12_ring : Cond.instanceMethod yX12_ring ∈ lwG := lwT_in (i := 2061) (by decide +kernel) (by decide +kernel)
theorem wi_X12_rings : Cond.instanceMethod yX12_rings ∈ lwG := lwT_in (i := 2069) (by decide +kernel) (by decide +kernel)
theorem wi_X12_seed : Cond.instanceMethod yX12_seed ∈ lwG := lwT_in (i := 2178) (by decide +kernel) (by decide +kernel)
theorem wi_X12_span : Cond.instanceMethod yX12_span ∈ lwG := lwT_in (i := 2162) (by decide +kernel) (by decide +kernel)
theorem wi_X12_steady : Cond.instanceMethod yX12_steady ∈ lwG := lwT_in (i := 2110) (by decide +kernel) (by decide +kernel)
theorem wi_X12_thrown : Cond.instanceMethod yX12_thrown ∈ lwG := lwT_in (i := 1697) (by decide +kernel) (by decide +kernel)
theorem wi_X12_town : Cond.instanceMethod yX12_town ∈ lwG := lwT_in (i := 1712) (by decide +kernel) (by decide +kernel)
theorem wi_X12_trial : Cond.instanceMethod yX12_trial ∈ lwG := lwT_in (i := 2154) (by decide +kernel) (by decide +kernel)
theorem wi_X12_undo : Cond.instanceMethod yX12_undo ∈ lwG := lwT_in (i := 2182) (by decide +kernel) (by decide +kernel)
theorem wi_X12_wed : Cond.instanceMethod yX12_wed ∈ lwG := lwT_in (i := 1942) (by decide +kernel) (by decide +kernel)
theorem wi_X12_weddings : Cond.instanceMethod yX12_weddings ∈ lwG := lwT_in (i := 2126) (by decide +kernel) (by decide +kernel)
theorem wi_X12_would : Cond.instanceMethod yX12_would ∈ lwG := lwT_in (i := 2013) (by decide +kernel) (by decide +kernel)
theorem wl_X11_X11_ahead : Cond.selects RX11 yX11_ahead yX11_ahead ∈ lwG := lwT_in (i := 1353) (by decide +kernel) (by decide +kernel)
theorem wl_X11_X11_anniversary : Cond.selects RX11 yX11_anniversary yX11_anniversary ∈ lwG := lwT_in (i := 1519) (by decide +kernel) (by decide +kernel)
theorem wl_X11_X11_ask : Cond.selects RX11 yX11_ask yX11_ask ∈ lwG := lwT_in (i := 1183) (by decide +kernel) (by decide +kernel)
theorem wl_X11_X11_back : Cond.selects RX11 yX11_back yX11_back ∈ lwG := lwT_in (i := 655) (by decide +kernel) (by decide +kernel)
theorem wl_X11_X11_best : Cond.selects RX11 yX11_best yX11_best ∈ lwG := lwT_in (i := 1321) (by decide +kernel) (by decide +kernel)
theorem wl_X11_X11_count : Cond.selects RX11 yX11_count yX11_count ∈ lwG := lwT_in (i := 663) (by decide +kernel) (by decide +kernel)
theorem wl_X11_X11_dance : Cond.selects RX11 yX11_dance yX11_dance ∈ lwG := lwT_in (i := 1557) (by decide +kernel) (by decide +kernel)
theorem wl_X11_X11_end : Cond.selects RX11 yX11_end yX11_end ∈ lwG := lwT_in (i := 455) (by decide +kernel) (by decide +kernel)
theorem wl_X11_X11_falls : Cond.selects RX11 yX11_falls yX11_falls ∈ lwG := lwT_in (i := 463) (by decide +kernel) (by decide +kernel)
theorem wl_X11_X11_fault : Cond.selects RX11 yX11_fault yX11_fault ∈ lwG := lwT_in (i := 459) (by decide +kernel) (by decide +kernel)
theorem wl_X11_X11_feed : Cond.selects RX11 yX11_feed yX11_feed ∈ lwG := lwT_in (i := 443) (by decide +kernel) (by decide +kernel)
theorem wl_X11_X11_first : Cond.selects RX11 yX11_first yX11_first ∈ lwG := lwT_in (i := 1374) (by decide +kernel) (by decide +kernel)
theorem wl_X11_X11_gift : Cond.selects RX11 yX11_gift yX11_gift ∈ lwG := lwT_in (i := 1222) (by decide +kernel) (by decide +kernel)
theorem wl_X11_X11_gifts : Cond.selects RX11 yX11_gifts yX11_gifts ∈ lwG := lwT_in (i := 1446) (by decide +kernel) (by decide +kernel)
theorem wl_X11_X11_holds : Cond.selects RX11 yX11_holds yX11_holds ∈ lwG := lwT_in (i := 1409) (by decide +kernel) (by decide +kernel)
theorem wl_X11_X11_image : Cond.selects RX11 yX11_image yX11_image ∈ lwG := lwT_in (i := 644) (by decide +kernel) (by decide +kernel)
theorem wl_X11_X11_law : Cond.selects RX11 yX11_law yX11_law ∈ lwG := lwT_in (i := 1058) (by decide +kernel) (by decide +kernel)
theorem wl_X11_X11_leans : Cond.selects RX11 yX11_leans yX11_leans ∈ lwG := lwT_in (i := 1431) (by decide +kernel) (by decide +kernel)
theorem wl_X11_X11_led : Cond.selects RX11 yX11_led yX11_led ∈ lwG := lwT_in (i := 1592) (by decide +kernel) (by decide +kernel)
theorem wl_X11_X11_liking : Cond.selects RX11 yX11_liking yX11_liking ∈ lwG := lwT_in (i := 1128) (by decide +kernel) (by decide +kernel)
theorem wl_X11_X11_log : Cond.selects RX11 yX11_log yX11_log ∈ lwG := lwT_in (i := 1612) (by decide +kernel) (by decide +kernel)
theorem wl_X11_X11_loses : Cond.selects RX11 yX11_loses yX11_loses ∈ lwG := lwT_in (i := 1396) (by decide +kernel) (by decide +kernel)
theorem wl_X11_X11_lovers : Cond.selects RX11 yX11_lovers yX11_lovers ∈ lwG := lwT_in (i := 569) (by decide +kernel) (by decide +kernel)
theorem wl_X11_X11_match : Cond.selects RX11 yX11_match yX11_match ∈ lwG := lwT_in (i := 1141) (by decide +kernel) (by decide +kernel)
theorem wl_X11_X11_meddle : Cond.selects RX11 yX11_meddle yX11_meddle ∈ lwG := lwT_in (i := 1250) (by decide +kernel) (by decide +kernel)
theorem wl_X11_X11_months : Cond.selects RX11 yX11_months yX11_months ∈ lwG := lwT_in (i := 1275) (by decide +kernel) (by decide +kernel)
theorem wl_X11_X11_next : Cond.selects RX11 yX11_next yX11_next ∈ lwG := lwT_in (i := 1337) (by decide +kernel) (by decide +kernel)
theorem wl_X11_X11_odds : Cond.selects RX11 yX11_odds yX11_odds ∈ lwG := lwT_in (i := 1385) (by decide +kernel) (by decide +kernel)
theorem wl_X11_X11_part : Cond.selects RX11 yX11_part yX11_part ∈ lwG := lwT_in (i := 1264) (by decide +kernel) (by decide +kernel)
theorem wl_X11_X11_person : Cond.selects RX11 yX11_person yX11_person ∈ lwG := lwT_in (i := 1075) (by decide +kernel) (by decide +kernel)
theorem wl_X11_X11_rather : Cond.selects RX11 yX11_rather yX11_rather ∈ lwG := lwT_in (i := 1472) (by decide +kernel) (by decide +kernel)
theorem wl_X11_X11_reinsure : Cond.selects RX11 yX11_reinsure yX11_reinsure ∈ lwG := lwT_in (i := 1257) (by decide +kernel) (by decide +kernel)
theorem wl_X11_X11_richest : Cond.selects RX11 yX11_richest yX11_richest ∈ lwG := lwT_in (i := 623) (by decide +kernel) (by decide +kernel)
theorem wl_X11_X11_ring : Cond.selects RX11 yX11_ring yX11_ring ∈ lwG := lwT_in (i := 1423) (by decide +kernel) (by decide +kernel)
theorem wl_X11_X11_rings : Cond.selects RX11 yX11_rings yX11_rings ∈ lwG := lwT_in (i := 553) (by decide +kernel) (by decide +kernel)
theorem wl_X11_X11_seed : Cond.selects RX11 yX11_seed yX11_seed ∈ lwG := lwT_in (i := 631) (by decide +kernel) (by decide +kernel)
theorem wl_X11_X11_span : Cond.selects RX11 yX11_span yX11_span ∈ lwG := lwT_in (i := 1585) (by decide +kernel) (by decide +kernel)
theorem wl_X11_X11_steady : Cond.selects RX11 yX11_steady yX11_steady ∈ lwG := lwT_in (i := 1480) (by decide +kernel) (by decide +kernel)
theorem wl_X11_X11_town : Cond.selects RX11 yX11_town yX11_town ∈ lwG := lwT_in (i := 685) (by decide +kernel) (by decide +kernel)
theorem wl_X11_X11_trial : Cond.selects RX11 yX11_trial yX11_trial ∈ lwG := lwT_in (i := 1569) (by decide +kernel) (by decide +kernel)
theorem wl_X11_X11_undo : Cond.selects RX11 yX11_undo yX11_undo ∈ lwG := lwT_in (i := 635) (by decide +kernel) (by decide +kernel)
theorem wl_X11_X11_wed : Cond.selects RX11 yX11_wed yX11_wed ∈ lwG := lwT_in (i := 1196) (by decide +kernel) (by decide +kernel)
theorem wl_X11_X11_weddings : Cond.selects RX11 yX11_weddings yX11_weddings ∈ lwG := lwT_in (i := 599) (by decide +kernel) (by decide +kernel)
theorem wl_X11_X11_would : Cond.selects RX11 yX11_would yX11_would ∈ lwG := lwT_in (i := 1313) (by decide +kernel) (by decide +kernel)
theorem wl_X12_X12_ahead : Cond.selects RX12 yX12_ahead yX12_ahead ∈ lwG := lwT_in (i := 2030) (by decide +kernel) (by decide +kernel)
theorem wl_X12_X12_anniversary : Cond.selects RX12 yX12_anniversary yX12_anniversary ∈ lwG := lwT_in (i := 2135) (by decide +kernel) (by decide +kernel)
theorem wl_X12_X12_ask : Cond.selects RX12 yX12_ask yX12_ask ∈ lwG := lwT_in (i := 1935) (by decide +kernel) (by decide +kernel)
theorem wl_X12_X12_back : Cond.selects RX12 yX12_back yX12_back ∈ lwG := lwT_in (i := 2191) (by decide +kernel) (by decide +kernel)
theorem wl_X12_X12_best : Cond.selects RX12 yX12_best yX12_best ∈ lwG := lwT_in (i := 2018) (by decide +kernel) (by decide +kernel)
theorem wl_X12_X12_count : Cond.selects RX12 yX12_count yX12_count ∈ lwG := lwT_in (i := 2195) (by decide +kernel) (by decide +kernel)
theorem wl_X12_X12_dance : Cond.selects RX12 yX12_dance yX12_dance ∈ lwG := lwT_in (i := 2147) (by decide +kernel) (by decide +kernel)
theorem wl_X12_X12_end : Cond.selects RX12 yX12_end yX12_end ∈ lwG := lwT_in (i := 1706) (by decide +kernel) (by decide +kernel)
theorem wl_X12_X12_falls : Cond.selects RX12 yX12_falls yX12_falls ∈ lwG := lwT_in (i := 2046) (by decide +kernel) (by decide +kernel)
theorem wl_X12_X12_fault : Cond.selects RX12 yX12_fault yX12_fault ∈ lwG := lwT_in (i := 1877) (by decide +kernel) (by decide +kernel)
theorem wl_X12_X12_feed : Cond.selects RX12 yX12_feed yX12_feed ∈ lwG := lwT_in (i := 1702) (by decide +kernel) (by decide +kernel)
theorem wl_X12_X12_first : Cond.selects RX12 yX12_first yX12_first ∈ lwG := lwT_in (i := 2038) (by decide +kernel) (by decide +kernel)
theorem wl_X12_X12_gift : Cond.selects RX12 yX12_gift yX12_gift ∈ lwG := lwT_in (i := 1947) (by decide +kernel) (by decide +kernel)
theorem wl_X12_X12_gifts : Cond.selects RX12 yX12_gifts yX12_gifts ∈ lwG := lwT_in (i := 2082) (by decide +kernel) (by decide +kernel)
theorem wl_X12_X12_holds : Cond.selects RX12 yX12_holds yX12_holds ∈ lwG := lwT_in (i := 2058) (by decide +kernel) (by decide +kernel)
theorem wl_X12_X12_image : Cond.selects RX12 yX12_image yX12_image ∈ lwG := lwT_in (i := 2187) (by decide +kernel) (by decide +kernel)
theorem wl_X12_X12_law : Cond.selects RX12 yX12_law yX12_law ∈ lwG := lwT_in (i := 1873) (by decide +kernel) (by decide +kernel)
theorem wl_X12_X12_leans : Cond.selects RX12 yX12_leans yX12_leans ∈ lwG := lwT_in (i := 2078) (by decide +kernel) (by decide +kernel)
theorem wl_X12_X12_led : Cond.selects RX12 yX12_led yX12_led ∈ lwG := lwT_in (i := 2167) (by decide +kernel) (by decide +kernel)
theorem wl_X12_X12_liking : Cond.selects RX12 yX12_liking yX12_liking ∈ lwG := lwT_in (i := 1900) (by decide +kernel) (by decide +kernel)
theorem wl_X12_X12_log : Cond.selects RX12 yX12_log yX12_log ∈ lwG := lwT_in (i := 2175) (by decide +kernel) (by decide +kernel)
theorem wl_X12_X12_loses : Cond.selects RX12 yX12_loses yX12_loses ∈ lwG := lwT_in (i := 2054) (by decide +kernel) (by decide +kernel)
theorem wl_X12_X12_lovers : Cond.selects RX12 yX12_lovers yX12_lovers ∈ lwG := lwT_in (i := 2107) (by decide +kernel) (by decide +kernel)
theorem wl_X12_X12_match : Cond.selects RX12 yX12_match yX12_match ∈ lwG := lwT_in (i := 1912) (by decide +kernel) (by decide +kernel)
theorem wl_X12_X12_meddle : Cond.selects RX12 yX12_meddle yX12_meddle ∈ lwG := lwT_in (i := 1958) (by decide +kernel) (by decide +kernel)
theorem wl_X12_X12_months : Cond.selects RX12 yX12_months yX12_months ∈ lwG := lwT_in (i := 1973) (by decide +kernel) (by decide +kernel)
theorem wl_X12_X12_next : Cond.selects RX12 yX12_next yX12_next ∈ lwG := lwT_in (i := 2022) (by decide +kernel) (by decide +kernel)
theorem wl_X12_X12_odds : Cond.selects RX12 yX12_odds yX12_odds ∈ lwG := lwT_in (i := 2042) (by decide +kernel) (by decide +kernel)
theorem wl_X12_X12_part_ : Cond.selects RX12 yX12_part_ yX12_part_ ∈ lwG := lwT_in (i := 1969) (by decide +kernel) (by decide +kernel)
theorem wl_X12_X12_person : Cond.selects RX12 yX12_person yX12_person ∈ lwG := lwT_in (i := 1881) (by decide +kernel) (by decide +kernel)
theorem wl_X12_X12_rather : Cond.selects RX12 yX12_rather yX12_rather ∈ lwG := lwT_in (i := 2099) (by decide +kernel) (by decide +kernel)
theorem wl_X12_X12_reinsure : Cond.selects RX12 yX12_reinsure yX12_reinsure ∈ lwG := lwT_in (i := 1965) (by decide +kernel) (by decide +kernel)
theorem wl_X12_X12_richest : Cond.selects RX12 yX12_richest yX12_richest ∈ lwG := lwT_in (i := 2151) (by decide +kernel) (by decide +kernel)
theorem wl_X12_X12_ring : Cond.selects RX12 yX12_ring yX12_ring ∈ lwG := lwT_in (i := 2062) (by decide +kernel) (by decide +kernel)
theorem wl_X12_X12_rings : Cond.selects RX12 yX12_rings yX12_rings ∈ lwG := lwT_in (i := 2070) (by decide +kernel) (by decide +kernel)
theorem wl_X12_X12_seed : Cond.selects RX12 yX12_seed yX12_seed ∈ lwG := lwT_in (i := 2179) (by decide +kernel) (by decide +kernel)
theorem wl_X12_X12_span : Cond.selects RX12 yX12_span yX12_span ∈ lwG := lwT_in (i := 2163) (by decide +kernel) (by decide +kernel)
theorem wl_X12_X12_steady : Cond.selects RX12 yX12_steady yX12_steady ∈ lwG := lwT_in (i := 2111) (by decide +kernel) (by decide +kernel)
theorem wl_X12_X12_thrown : Cond.selects RX12 yX12_thrown yX12_thrown ∈ lwG := lwT_in (i := 1698) (by decide +kernel) (by decide +kernel)
theorem wl_X12_X12_town : Cond.selects RX12 yX12_town yX12_town ∈ lwG := lwT_in (i := 1713) (by decide +kernel) (by decide +kernel)
theorem wl_X12_X12_trial : Cond.selects RX12 yX12_trial yX12_trial ∈ lwG := lwT_in (i := 2155) (by decide +kernel) (by decide +kernel)
theorem wl_X12_X12_undo : Cond.selects RX12 yX12_undo yX12_undo ∈ lwG := lwT_in (i := 2183) (by decide +kernel) (by decide +kernel)
theorem wl_X12_X12_wed : Cond.selects RX12 yX12_wed yX12_wed ∈ lwG := lwT_in (i := 1943) (by decide +kernel) (by decide +kernel)
theorem wl_X12_X12_weddings : Cond.selects RX12 yX12_weddings yX12_weddings ∈ lwG := lwT_in (i := 2127) (by decide +kernel) (by decide +kernel)
theorem wl_X12_X12_would : Cond.selects RX12 yX12_would yX12_would ∈ lwG := lwT_in (i := 2014) (by decide +kernel) (by decide +kernel)
theorem wlk_13 : Cond.classLink RL 13 "java/lang/IllegalArgumentException" ∈ lwG := lwT_in (i := 681) (by decide +kernel) (by decide +kernel)
theorem wlk_15 : Cond.classLink RL 15 "java/lang/UnsupportedOperationException" ∈ lwG := lwT_in (i := 682) (by decide +kernel) (by decide +kernel)
theorem wlk_24 : Cond.classLink RL 24 "java/lang/IndexOutOfBoundsException" ∈ lwG := lwT_in (i := 1071) (by decide +kernel) (by decide +kernel)
theorem wlk_26 : Cond.classLink RL 26 "java/util/NoSuchElementException" ∈ lwG := lwT_in (i := 1072) (by decide +kernel) (by decide +kernel)
theorem wlk_41 : Cond.classLink RL 41 "java/lang/IllegalStateException" ∈ lwG := lwT_in (i := 1193) (by decide +kernel) (by decide +kernel)
theorem wm_L_103 : Cond.methodLink RL 103 yX11_dance ∈ lwG := lwT_in (i := 1555) (by decide +kernel) (by decide +kernel)
theorem wm_L_106 : Cond.methodLink RL 106 yX11_trial ∈ lwG := lwT_in (i := 1567) (by decide +kernel) (by decide +kernel)
theorem wm_L_110 : Cond.methodLink RL 110 yX11_span ∈ lwG := lwT_in (i := 1583) (by decide +kernel) (by decide +kernel)
theorem wm_L_113 : Cond.methodLink RL 113 yX11_led ∈ lwG := lwT_in (i := 1590) (by decide +kernel) (by decide +kernel)
theorem wm_L_116 : Cond.methodLink RL 116 yX11_log ∈ lwG := lwT_in (i := 1610) (by decide +kernel) (by decide +kernel)
theorem wm_L_123 : Cond.methodLink RL 123 yX11_feed ∈ lwG := lwT_in (i := 441) (by decide +kernel) (by decide +kernel)
theorem wm_L_127 : Cond.methodLink RL 127 yX12_feed ∈ lwG := lwT_in (i := 1700) (by decide +kernel) (by decide +kernel)
theorem wm_L_128 : Cond.methodLink RL 128 yX11_end ∈ lwG := lwT_in (i := 453) (by decide +kernel) (by decide +kernel)
theorem wm_L_132 : Cond.methodLink RL 132 yX12_end ∈ lwG := lwT_in (i := 1704) (by decide +kernel) (by decide +kernel)
theorem wm_L_133 : Cond.methodLink RL 133 yL_town ∈ lwG := lwT_in (i := 678) (by decide +kernel) (by decide +kernel)
theorem wm_L_138 : Cond.methodLink RL 138 yX12_town ∈ lwG := lwT_in (i := 1711) (by decide +kernel) (by decide +kernel)
theorem wm_L_139 : Cond.methodLink RL 139 yX12_thrown ∈ lwG := lwT_in (i := 1696) (by decide +kernel) (by decide +kernel)
theorem wm_L_142 : Cond.methodLink RL 142 yL_law ∈ lwG := lwT_in (i := 1053) (by decide +kernel) (by decide +kernel)
theorem wm_L_144 : Cond.methodLink RL 144 yX12_law ∈ lwG := lwT_in (i := 1871) (by decide +kernel) (by decide +kernel)
theorem wm_L_145 : Cond.methodLink RL 145 yX11_fault ∈ lwG := lwT_in (i := 457) (by decide +kernel) (by decide +kernel)
theorem wm_L_148 : Cond.methodLink RL 148 yX12_fault ∈ lwG := lwT_in (i := 1875) (by decide +kernel) (by decide +kernel)
theorem wm_L_149 : Cond.methodLink RL 149 yL_person ∈ lwG := lwT_in (i := 1068) (by decide +kernel) (by decide +kernel)
theorem wm_L_152 : Cond.methodLink RL 152 yX12_person ∈ lwG := lwT_in (i := 1879) (by decide +kernel) (by decide +kernel)
theorem wm_L_153 : Cond.methodLink RL 153 yL_liking ∈ lwG := lwT_in (i := 1123) (by decide +kernel) (by decide +kernel)
theorem wm_L_155 : Cond.methodLink RL 155 yX12_liking ∈ lwG := lwT_in (i := 1898) (by decide +kernel) (by decide +kernel)
theorem wm_L_156 : Cond.methodLink RL 156 yL_match ∈ lwG := lwT_in (i := 1136) (by decide +kernel) (by decide +kernel)
theorem wm_L_158 : Cond.methodLink RL 158 yX12_match ∈ lwG := lwT_in (i := 1910) (by decide +kernel) (by decide +kernel)
theorem wm_L_159 : Cond.methodLink RL 159 yL_ask ∈ lwG := lwT_in (i := 1178) (by decide +kernel) (by decide +kernel)
theorem wm_L_161 : Cond.methodLink RL 161 yX12_ask ∈ lwG := lwT_in (i := 1933) (by decide +kernel) (by decide +kernel)
theorem wm_L_162 : Cond.methodLink RL 162 yL_wed ∈ lwG := lwT_in (i := 1190) (by decide +kernel) (by decide +kernel)
theorem wm_L_164 : Cond.methodLink RL 164 yX12_wed ∈ lwG := lwT_in (i := 1941) (by decide +kernel) (by decide +kernel)
theorem wm_L_165 : Cond.methodLink RL 165 yL_gift ∈ lwG := lwT_in (i := 1217) (by decide +kernel) (by decide +kernel)
theorem wm_L_167 : Cond.methodLink RL 167 yX12_gift ∈ lwG := lwT_in (i := 1945) (by decide +kernel) (by decide +kernel)
theorem wm_L_168 : Cond.methodLink RL 168 yL_meddle ∈ lwG := lwT_in (i := 1245) (by decide +kernel) (by decide +kernel)
theorem wm_L_17 : Cond.methodLink RL 17 yX11_law ∈ lwG := lwT_in (i := 1056) (by decide +kernel) (by decide +kernel)
theorem wm_L_170 : Cond.methodLink RL 170 yX12_meddle ∈ lwG := lwT_in (i := 1956) (by decide +kernel) (by decide +kernel)
theorem wm_L_171 : Cond.methodLink RL 171 yL_reinsure ∈ lwG := lwT_in (i := 1252) (by decide +kernel) (by decide +kernel)
theorem wm_L_173 : Cond.methodLink RL 173 yX12_reinsure ∈ lwG := lwT_in (i := 1963) (by decide +kernel) (by decide +kernel)
theorem wm_L_174 : Cond.methodLink RL 174 yL_part ∈ lwG := lwT_in (i := 1259) (by decide +kernel) (by decide +kernel)
theorem wm_L_177 : Cond.methodLink RL 177 yX12_part_ ∈ lwG := lwT_in (i := 1967) (by decide +kernel) (by decide +kernel)
theorem wm_L_178 : Cond.methodLink RL 178 yL_months ∈ lwG := lwT_in (i := 1270) (by decide +kernel) (by decide +kernel)
theorem wm_L_180 : Cond.methodLink RL 180 yX12_months ∈ lwG := lwT_in (i := 1971) (by decide +kernel) (by decide +kernel)
theorem wm_L_181 : Cond.methodLink RL 181 yL_would ∈ lwG := lwT_in (i := 1308) (by decide +kernel) (by decide +kernel)
theorem wm_L_183 : Cond.methodLink RL 183 yX12_would ∈ lwG := lwT_in (i := 2012) (by decide +kernel) (by decide +kernel)
theorem wm_L_184 : Cond.methodLink RL 184 yL_best ∈ lwG := lwT_in (i := 1316) (by decide +kernel) (by decide +kernel)
theorem wm_L_186 : Cond.methodLink RL 186 yX12_best ∈ lwG := lwT_in (i := 2016) (by decide +kernel) (by decide +kernel)
theorem wm_L_187 : Cond.methodLink RL 187 yL_next ∈ lwG := lwT_in (i := 1332) (by decide +kernel) (by decide +kernel)
theorem wm_L_189 : Cond.methodLink RL 189 yX12_next ∈ lwG := lwT_in (i := 2020) (by decide +kernel) (by decide +kernel)
theorem wm_L_190 : Cond.methodLink RL 190 yL_ahead ∈ lwG := lwT_in (i := 1348) (by decide +kernel) (by decide +kernel)
theorem wm_L_193 : Cond.methodLink RL 193 yX12_ahead ∈ lwG := lwT_in (i := 2028) (by decide +kernel) (by decide +kernel)
theorem wm_L_194 : Cond.methodLink RL 194 yL_first ∈ lwG := lwT_in (i := 1369) (by decide +kernel) (by decide +kernel)
theorem wm_L_196 : Cond.methodLink RL 196 yX12_first ∈ lwG := lwT_in (i := 2036) (by decide +kernel) (by decide +kernel)
theorem wm_L_197 : Cond.methodLink RL 197 yL_odds ∈ lwG := lwT_in (i := 1380) (by decide +kernel) (by decide +kernel)
theorem wm_L_199 : Cond.methodLink RL 199 yX12_odds ∈ lwG := lwT_in (i := 2040) (by decide +kernel) (by decide +kernel)
theorem wm_L_20 : Cond.methodLink RL 20 yX11_person ∈ lwG := lwT_in (i := 1073) (by decide +kernel) (by decide +kernel)
theorem wm_L_200 : Cond.methodLink RL 200 yX11_falls ∈ lwG := lwT_in (i := 461) (by decide +kernel) (by decide +kernel)
theorem wm_L_203 : Cond.methodLink RL 203 yX12_falls ∈ lwG := lwT_in (i := 2044) (by decide +kernel) (by decide +kernel)
theorem wm_L_204 : Cond.methodLink RL 204 yL_loses ∈ lwG := lwT_in (i := 1391) (by decide +kernel) (by decide +kernel)
theorem wm_L_206 : Cond.methodLink RL 206 yX12_loses ∈ lwG := lwT_in (i := 2052) (by decide +kernel) (by decide +kernel)
theorem wm_L_207 : Cond.methodLink RL 207 yL_holds ∈ lwG := lwT_in (i := 1404) (by decide +kernel) (by decide +kernel)
theorem wm_L_209 : Cond.methodLink RL 209 yX12_holds ∈ lwG := lwT_in (i := 2056) (by decide +kernel) (by decide +kernel)
theorem wm_L_210 : Cond.methodLink RL 210 yL_ring ∈ lwG := lwT_in (i := 1418) (by decide +kernel) (by decide +kernel)
theorem wm_L_212 : Cond.methodLink RL 212 yX12_ring ∈ lwG := lwT_in (i := 2060) (by decide +kernel) (by decide +kernel)
theorem wm_L_213 : Cond.methodLink RL 213 yX11_rings ∈ lwG := lwT_in (i := 551) (by decide +kernel) (by decide +kernel)
theorem wm_L_216 : Cond.methodLink RL 216 yX12_rings ∈ lwG := lwT_in (i := 2068) (by decide +kernel) (by decide +kernel)
theorem wm_L_217 : Cond.methodLink RL 217 yL_leans ∈ lwG := lwT_in (i := 1426) (by decide +kernel) (by decide +kernel)
theorem wm_L_219 : Cond.methodLink RL 219 yX12_leans ∈ lwG := lwT_in (i := 2076) (by decide +kernel) (by decide +kernel)
theorem wm_L_220 : Cond.methodLink RL 220 yL_gifts ∈ lwG := lwT_in (i := 1441) (by decide +kernel) (by decide +kernel)
theorem wm_L_222 : Cond.methodLink RL 222 yX12_gifts ∈ lwG := lwT_in (i := 2080) (by decide +kernel) (by decide +kernel)
theorem wm_L_223 : Cond.methodLink RL 223 yL_rather ∈ lwG := lwT_in (i := 1467) (by decide +kernel) (by decide +kernel)
theorem wm_L_225 : Cond.methodLink RL 225 yX12_rather ∈ lwG := lwT_in (i := 2097) (by decide +kernel) (by decide +kernel)
theorem wm_L_226 : Cond.methodLink RL 226 yX11_lovers ∈ lwG := lwT_in (i := 567) (by decide +kernel) (by decide +kernel)
theorem wm_L_229 : Cond.methodLink RL 229 yX12_lovers ∈ lwG := lwT_in (i := 2105) (by decide +kernel) (by decide +kernel)
theorem wm_L_230 : Cond.methodLink RL 230 yL_steady ∈ lwG := lwT_in (i := 1475) (by decide +kernel) (by decide +kernel)
theorem wm_L_232 : Cond.methodLink RL 232 yX12_steady ∈ lwG := lwT_in (i := 2109) (by decide +kernel) (by decide +kernel)
theorem wm_L_233 : Cond.methodLink RL 233 yX11_weddings ∈ lwG := lwT_in (i := 597) (by decide +kernel) (by decide +kernel)
theorem wm_L_236 : Cond.methodLink RL 236 yX12_weddings ∈ lwG := lwT_in (i := 2125) (by decide +kernel) (by decide +kernel)
theorem wm_L_237 : Cond.methodLink RL 237 yL_anniversary ∈ lwG := lwT_in (i := 1514) (by decide +kernel) (by decide +kernel)
theorem wm_L_240 : Cond.methodLink RL 240 yX12_anniversary ∈ lwG := lwT_in (i := 2133) (by decide +kernel) (by decide +kernel)
theorem wm_L_241 : Cond.methodLink RL 241 yL_dance ∈ lwG := lwT_in (i := 1552) (by decide +kernel) (by decide +kernel)
theorem wm_L_243 : Cond.methodLink RL 243 yX12_dance ∈ lwG := lwT_in (i := 2145) (by decide +kernel) (by decide +kernel)
theorem wm_L_244 : Cond.methodLink RL 244 yX11_richest ∈ lwG := lwT_in (i := 621) (by decide +kernel) (by decide +kernel)
theorem wm_L_247 : Cond.methodLink RL 247 yX12_richest ∈ lwG := lwT_in (i := 2149) (by decide +kernel) (by decide +kernel)
theorem wm_L_248 : Cond.methodLink RL 248 yL_trial ∈ lwG := lwT_in (i := 1564) (by decide +kernel) (by decide +kernel)
theorem wm_L_251 : Cond.methodLink RL 251 yX12_trial ∈ lwG := lwT_in (i := 2153) (by decide +kernel) (by decide +kernel)
theorem wm_L_252 : Cond.methodLink RL 252 yL_span ∈ lwG := lwT_in (i := 1580) (by decide +kernel) (by decide +kernel)
theorem wm_L_254 : Cond.methodLink RL 254 yX12_span ∈ lwG := lwT_in (i := 2161) (by decide +kernel) (by decide +kernel)
theorem wm_L_255 : Cond.methodLink RL 255 yL_led ∈ lwG := lwT_in (i := 1587) (by decide +kernel) (by decide +kernel)
theorem wm_L_257 : Cond.methodLink RL 257 yX12_led ∈ lwG := lwT_in (i := 2165) (by decide +kernel) (by decide +kernel)
theorem wm_L_258 : Cond.methodLink RL 258 yL_log ∈ lwG := lwT_in (i := 1607) (by decide +kernel) (by decide +kernel)
theorem wm_L_260 : Cond.methodLink RL 260 yX12_log ∈ lwG := lwT_in (i := 2173) (by decide +kernel) (by decide +kernel)
theorem wm_L_261 : Cond.methodLink RL 261 yX11_seed ∈ lwG := lwT_in (i := 629) (by decide +kernel) (by decide +kernel)
theorem wm_L_264 : Cond.methodLink RL 264 yX12_seed ∈ lwG := lwT_in (i := 2177) (by decide +kernel) (by decide +kernel)
theorem wm_L_265 : Cond.methodLink RL 265 yX11_undo ∈ lwG := lwT_in (i := 633) (by decide +kernel) (by decide +kernel)
theorem wm_L_269 : Cond.methodLink RL 269 yX12_undo ∈ lwG := lwT_in (i := 2181) (by decide +kernel) (by decide +kernel)
theorem wm_L_270 : Cond.methodLink RL 270 yX11_image ∈ lwG := lwT_in (i := 642) (by decide +kernel) (by decide +kernel)
theorem wm_L_273 : Cond.methodLink RL 273 yX12_image ∈ lwG := lwT_in (i := 2185) (by decide +kernel) (by decide +kernel)
theorem wm_L_274 : Cond.methodLink RL 274 yX11_back ∈ lwG := lwT_in (i := 653) (by decide +kernel) (by decide +kernel)
theorem wm_L_277 : Cond.methodLink RL 277 yX12_back ∈ lwG := lwT_in (i := 2189) (by decide +kernel) (by decide +kernel)
theorem wm_L_278 : Cond.methodLink RL 278 yX11_count ∈ lwG := lwT_in (i := 661) (by decide +kernel) (by decide +kernel)
theorem wm_L_28 : Cond.methodLink RL 28 yX11_liking ∈ lwG := lwT_in (i := 1126) (by decide +kernel) (by decide +kernel)
theorem wm_L_281 : Cond.methodLink RL 281 yX12_count ∈ lwG := lwT_in (i := 2193) (by decide +kernel) (by decide +kernel)
theorem wm_L_31 : Cond.methodLink RL 31 yX11_match ∈ lwG := lwT_in (i := 1139) (by decide +kernel) (by decide +kernel)
theorem wm_L_34 : Cond.methodLink RL 34 yX11_ask ∈ lwG := lwT_in (i := 1181) (by decide +kernel) (by decide +kernel)
theorem wm_L_38 : Cond.methodLink RL 38 yX11_wed ∈ lwG := lwT_in (i := 1194) (by decide +kernel) (by decide +kernel)
theorem wm_L_43 : Cond.methodLink RL 43 yX11_gift ∈ lwG := lwT_in (i := 1220) (by decide +kernel) (by decide +kernel)
theorem wm_L_46 : Cond.methodLink RL 46 yX11_meddle ∈ lwG := lwT_in (i := 1248) (by decide +kernel) (by decide +kernel)
theorem wm_L_49 : Cond.methodLink RL 49 yX11_reinsure ∈ lwG := lwT_in (i := 1255) (by decide +kernel) (by decide +kernel)
theorem wm_L_52 : Cond.methodLink RL 52 yX11_part ∈ lwG := lwT_in (i := 1262) (by decide +kernel) (by decide +kernel)
theorem wm_L_56 : Cond.methodLink RL 56 yX11_months ∈ lwG := lwT_in (i := 1273) (by decide +kernel) (by decide +kernel)
theorem wm_L_59 : Cond.methodLink RL 59 yX11_would ∈ lwG := lwT_in (i := 1311) (by decide +kernel) (by decide +kernel)
theorem wm_L_62 : Cond.methodLink RL 62 yX11_best ∈ lwG := lwT_in (i := 1319) (by decide +kernel) (by decide +kernel)
theorem wm_L_65 : Cond.methodLink RL 65 yX11_next ∈ lwG := lwT_in (i := 1335) (by decide +kernel) (by decide +kernel)
theorem wm_L_68 : Cond.methodLink RL 68 yX11_ahead ∈ lwG := lwT_in (i := 1351) (by decide +kernel) (by decide +kernel)
theorem wm_L_7 : Cond.methodLink RL 7 yX11_town ∈ lwG := lwT_in (i := 683) (by decide +kernel) (by decide +kernel)
theorem wm_L_72 : Cond.methodLink RL 72 yX11_first ∈ lwG := lwT_in (i := 1372) (by decide +kernel) (by decide +kernel)
theorem wm_L_75 : Cond.methodLink RL 75 yX11_odds ∈ lwG := lwT_in (i := 1383) (by decide +kernel) (by decide +kernel)
theorem wm_L_78 : Cond.methodLink RL 78 yX11_loses ∈ lwG := lwT_in (i := 1394) (by decide +kernel) (by decide +kernel)
theorem wm_L_81 : Cond.methodLink RL 81 yX11_holds ∈ lwG := lwT_in (i := 1407) (by decide +kernel) (by decide +kernel)
theorem wm_L_84 : Cond.methodLink RL 84 yX11_ring ∈ lwG := lwT_in (i := 1421) (by decide +kernel) (by decide +kernel)
theorem wm_L_87 : Cond.methodLink RL 87 yX11_leans ∈ lwG := lwT_in (i := 1429) (by decide +kernel) (by decide +kernel)
theorem wm_L_90 : Cond.methodLink RL 90 yX11_gifts ∈ lwG := lwT_in (i := 1444) (by decide +kernel) (by decide +kernel)
theorem wm_L_93 : Cond.methodLink RL 93 yX11_rather ∈ lwG := lwT_in (i := 1470) (by decide +kernel) (by decide +kernel)
theorem wm_L_96 : Cond.methodLink RL 96 yX11_steady ∈ lwG := lwT_in (i := 1478) (by decide +kernel) (by decide +kernel)
theorem wm_L_99 : Cond.methodLink RL 99 yX11_anniversary ∈ lwG := lwT_in (i := 1517) (by decide +kernel) (by decide +kernel)
theorem ws_L_ahead : Cond.static yL_ahead ∈ lwG := lwT_in (i := 1349) (by decide +kernel) (by decide +kernel)
theorem ws_L_anniversary : Cond.static yL_anniversary ∈ lwG := lwT_in (i := 1515) (by decide +kernel) (by decide +kernel)
theorem ws_L_ask : Cond.static yL_ask ∈ lwG := lwT_in (i := 1179) (by decide +kernel) (by decide +kernel)
theorem ws_L_best : Cond.static yL_best ∈ lwG := lwT_in (i := 1317) (by decide +kernel) (by decide +kernel)
theorem ws_L_dance : Cond.static yL_dance ∈ lwG := lwT_in (i := 1553) (by decide +kernel) (by decide +kernel)
theorem ws_L_first : Cond.static yL_first ∈ lwG := lwT_in (i := 1370) (by decide +kernel) (by decide +kernel)
theorem ws_L_gift : Cond.static yL_gift ∈ lwG := lwT_in (i := 1218) (by decide +kernel) (by decide +kernel)
theorem ws_L_gifts : Cond.static yL_gifts ∈ lwG := lwT_in (i := 1442) (by decide +kernel) (by decide +kernel)
theorem ws_L_holds : Cond.static yL_holds ∈ lwG := lwT_in (i := 1405) (by decide +kernel) (by decide +kernel)
theorem ws_L_law : Cond.static yL_law ∈ lwG := lwT_in (i := 1054) (by decide +kernel) (by decide +kernel)
theorem ws_L_leans : Cond.static yL_leans ∈ lwG := lwT_in (i := 1427) (by decide +kernel) (by decide +kernel)
theorem ws_L_led : Cond.static yL_led ∈ lwG := lwT_in (i := 1588) (by decide +kernel) (by decide +kernel)
theorem ws_L_liking : Cond.static yL_liking ∈ lwG := lwT_in (i := 1124) (by decide +kernel) (by decide +kernel)
theorem ws_L_log : Cond.static yL_log ∈ lwG := lwT_in (i := 1608) (by decide +kernel) (by decide +kernel)
theorem ws_L_loses : Cond.static yL_loses ∈ lwG := lwT_in (i := 1392) (by decide +kernel) (by decide +kernel)
theorem ws_L_match : Cond.static yL_match ∈ lwG := lwT_in (i := 1137) (by decide +kernel) (by decide +kernel)
theorem ws_L_meddle : Cond.static yL_meddle ∈ lwG := lwT_in (i := 1246) (by decide +kernel) (by decide +kernel)
theorem ws_L_months : Cond.static yL_months ∈ lwG := lwT_in (i := 1271) (by decide +kernel) (by decide +kernel)
theorem ws_L_next : Cond.static yL_next ∈ lwG := lwT_in (i := 1333) (by decide +kernel) (by decide +kernel)
theorem ws_L_odds : Cond.static yL_odds ∈ lwG := lwT_in (i := 1381) (by decide +kernel) (by decide +kernel)
theorem ws_L_part : Cond.static yL_part ∈ lwG := lwT_in (i := 1260) (by decide +kernel) (by decide +kernel)
theorem ws_L_person : Cond.static yL_person ∈ lwG := lwT_in (i := 1069) (by decide +kernel) (by decide +kernel)
theorem ws_L_rather : Cond.static yL_rather ∈ lwG := lwT_in (i := 1468) (by decide +kernel) (by decide +kernel)
theorem ws_L_reinsure : Cond.static yL_reinsure ∈ lwG := lwT_in (i := 1253) (by decide +kernel) (by decide +kernel)
theorem ws_L_ring : Cond.static yL_ring ∈ lwG := lwT_in (i := 1419) (by decide +kernel) (by decide +kernel)
theorem ws_L_span : Cond.static yL_span ∈ lwG := lwT_in (i := 1581) (by decide +kernel) (by decide +kernel)
theorem ws_L_steady : Cond.static yL_steady ∈ lwG := lwT_in (i := 1476) (by decide +kernel) (by decide +kernel)
theorem ws_L_town : Cond.static yL_town ∈ lwG := lwT_in (i := 679) (by decide +kernel) (by decide +kernel)
theorem ws_L_trial : Cond.static yL_trial ∈ lwG := lwT_in (i := 1565) (by decide +kernel) (by decide +kernel)
theorem ws_L_wed : Cond.static yL_wed ∈ lwG := lwT_in (i := 1191) (by decide +kernel) (by decide +kernel)
theorem ws_L_would : Cond.static yL_would ∈ lwG := lwT_in (i := 1309) (by decide +kernel) (by decide +kernel)
theorem wz_L : Cond.initialized RL ∈ lwG := lwT_in (i := 0) (by decide +kernel) (by decide +kernel)
theorem gsh_133 : GoodIn lwG (va_wsS RL 133 yL_town (wAH yL_town cL_town 3 (some .int) [(0, 8, 11, 13), (0, 8, 14, 15)])) := gAH wm_L_133 ws_L_town wz_L wcw_L_town
theorem gsh_142 : GoodIn lwG (va_wsS RL 142 yL_law (wAH yL_law cL_law 3 (some .int) [(0, 8, 11, 13)])) := gAH wm_L_142 ws_L_law wz_L wcw_L_law
theorem gsh_149 : GoodIn lwG (va_wsS RL 149 yL_person (wAH yL_person cL_person 5 (some .int) [(0, 10, 13, 24), (0, 10, 17, 26)])) := gAH wm_L_149 ws_L_person wz_L wcw_L_person
theorem gsh_153 : GoodIn lwG (va_wsS RL 153 yL_liking (wAH yL_liking cL_liking 5 (some .int) [(0, 10, 13, 24), (0, 10, 17, 13)])) := gAH wm_L_153 ws_L_liking wz_L wcw_L_liking
theorem gsh_156 : GoodIn lwG (va_wsS RL 156 yL_match (wAH yL_match cL_match 5 (some .int) [(0, 10, 13, 24), (0, 10, 17, 26)])) := gAH wm_L_156 ws_L_match wz_L wcw_L_match
theorem gsh_159 : GoodIn lwG (va_wsS RL 159 yL_ask (wAH yL_ask cL_ask 5 (some .int) [(0, 17, 20, 24), (0, 17, 24, 13)])) := gAH wm_L_159 ws_L_ask wz_L wcw_L_ask
theorem gsh_162 : GoodIn lwG (va_wsS RL 162 yL_wed (wAH yL_wed cL_wed 5 (some .int) [(0, 10, 13, 24), (0, 10, 17, 13), (0, 10, 21, 41), (0, 10, 25, 15)])) := gAH wm_L_162 ws_L_wed wz_L wcw_L_wed
theorem gsh_165 : GoodIn lwG (va_wsS RL 165 yL_gift (wAH yL_gift cL_gift 5 (some .int) [(0, 10, 13, 24), (0, 10, 17, 41)])) := gAH wm_L_165 ws_L_gift wz_L wcw_L_gift
theorem gsh_168 : GoodIn lwG (va_wsS RL 168 yL_meddle (wAH yL_meddle cL_meddle 5 (some .int) [(0, 10, 13, 24), (0, 10, 17, 41)])) := gAH wm_L_168 ws_L_meddle wz_L wcw_L_meddle
theorem gsh_171 : GoodIn lwG (va_wsS RL 171 yL_reinsure (wAH yL_reinsure cL_reinsure 5 (some .int) [(0, 10, 13, 24), (0, 10, 17, 13)])) := gAH wm_L_171 ws_L_reinsure wz_L wcw_L_reinsure
theorem gsh_174 : GoodIn lwG (va_wsS RL 174 yL_part (wAH yL_part cL_part 4 (some .int) [(0, 9, 12, 24), (0, 9, 15, 41)])) := gAH wm_L_174 ws_L_part wz_L wcw_L_part
theorem gsh_178 : GoodIn lwG (va_wsS RL 178 yL_months (wAH yL_months cL_months 4 (some .int) [(0, 9, 12, 13)])) := gAH wm_L_178 ws_L_months wz_L wcw_L_months
theorem gsh_181 : GoodIn lwG (va_wsS RL 181 yL_would (wAH yL_would cL_would 5 (some .int) [(0, 10, 13, 24), (0, 10, 17, 13)])) := gAH wm_L_181 ws_L_would wz_L wcw_L_would
theorem gsh_184 : GoodIn lwG (va_wsS RL 184 yL_best (wAH yL_best cL_best 4 (some .int) [(0, 9, 12, 24)])) := gAH wm_L_184 ws_L_best wz_L wcw_L_best
theorem gsh_187 : GoodIn lwG (va_wsS RL 187 yL_next (wAH yL_next cL_next 5 (some .int) [(0, 10, 13, 24), (0, 10, 17, 13)])) := gAH wm_L_187 ws_L_next wz_L wcw_L_next
theorem gsh_190 : GoodIn lwG (va_wsS RL 190 yL_ahead (wAH yL_ahead cL_ahead 6 (some .int) [(0, 12, 15, 24), (0, 12, 19, 13)])) := gAH wm_L_190 ws_L_ahead wz_L wcw_L_ahead
theorem gsh_194 : GoodIn lwG (va_wsS RL 194 yL_first (wAH yL_first cL_first 5 (some .int) [(0, 10, 13, 24), (0, 10, 17, 13)])) := gAH wm_L_194 ws_L_first wz_L wcw_L_first
theorem gsh_197 : GoodIn lwG (va_wsS RL 197 yL_odds (wAH yL_odds cL_odds 4 (some .int) [(0, 9, 12, 24)])) := gAH wm_L_197 ws_L_odds wz_L wcw_L_odds
theorem gsh_204 : GoodIn lwG (va_wsS RL 204 yL_loses (wAH yL_loses cL_loses 4 (some .int) [(0, 9, 12, 24)])) := gAH wm_L_204 ws_L_loses wz_L wcw_L_loses
theorem gsh_207 : GoodIn lwG (va_wsS RL 207 yL_holds (wAH yL_holds cL_holds 4 (some .int) [(0, 9, 12, 24)])) := gAH wm_L_207 ws_L_holds wz_L wcw_L_holds
theorem gsh_210 : GoodIn lwG (va_wsS RL 210 yL_ring (wAH yL_ring cL_ring 4 (some .int) [(0, 9, 12, 24)])) := gAH wm_L_210 ws_L_ring wz_L wcw_L_ring
theorem gsh_217 : GoodIn lwG (va_wsS RL 217 yL_leans (wAH yL_leans cL_leans 4 (some .int) [(0, 9, 12, 24)])) := gAH wm_L_217 ws_L_leans wz_L wcw_L_leans
theorem gsh_220 : GoodIn lwG (va_wsS RL 220 yL_gifts (wAH yL_gifts cL_gifts 6 (some .int) [(0, 12, 15, 24), (0, 12, 19, 13)])) := gAH wm_L_220 ws_L_gifts wz_L wcw_L_gifts
theorem gsh_223 : GoodIn lwG (va_wsS RL 223 yL_rather (wAH yL_rather cL_rather 4 (some .int) [(0, 9, 12, 24)])) := gAH wm_L_223 ws_L_rather wz_L wcw_L_rather
theorem gsh_230 : GoodIn lwG (va_wsS RL 230 yL_steady (wAH yL_steady cL_steady 4 (some .int) [(0, 9, 12, 24)])) := gAH wm_L_230 ws_L_steady wz_L wcw_L_steady
theorem gsh_237 : GoodIn lwG (va_wsS RL 237 yL_anniversary (wAH yL_anniversary cL_anniversary 4 (some .int) [(0, 9, 12, 13)])) := gAH wm_L_237 ws_L_anniversary wz_L wcw_L_anniversary
theorem gsh_241 : GoodIn lwG (va_wsS RL 241 yL_dance (wAH yL_dance cL_dance 3 (some .int) [(0, 8, 11, 13)])) := gAH wm_L_241 ws_L_dance wz_L wcw_L_dance
theorem gsh_248 : GoodIn lwG (va_wsS RL 248 yL_trial (wAH yL_trial cL_trial 5 (some .int) [(0, 10, 13, 13)])) := gAH wm_L_248 ws_L_trial wz_L wcw_L_trial
theorem gsh_252 : GoodIn lwG (va_wsS RL 252 yL_span (wAH yL_span cL_span 5 (some .int) [(0, 10, 13, 13)])) := gAH wm_L_252 ws_L_span wz_L wcw_L_span
theorem gsh_255 : GoodIn lwG (va_wsS RL 255 yL_led (wAH yL_led cL_led 5 (some .int) [(0, 10, 13, 24)])) := gAH wm_L_255 ws_L_led wz_L wcw_L_led
theorem gsh_258 : GoodIn lwG (va_wsS RL 258 yL_log (wAH yL_log cL_log 5 (some .int) [(0, 10, 13, 26)])) := gAH wm_L_258 ws_L_log wz_L wcw_L_log
theorem gv_L_103 : GoodIn lwG (wsV RL 103 RX11 yX11_dance (wA yX11_dance cX11_dance 1 (some .int))) := gA4 wm_L_103 wi_X11_dance wl_X11_X11_dance wz_X11 wc_X11_dance
theorem gv_L_106 : GoodIn lwG (wsV RL 106 RX11 yX11_trial (wA yX11_trial cX11_trial 4 (some .int))) := gA4 wm_L_106 wi_X11_trial wl_X11_X11_trial wz_X11 wc_X11_trial
theorem gv_L_110 : GoodIn lwG (wsV RL 110 RX11 yX11_span (wA yX11_span cX11_span 6 (some .int))) := gA4 wm_L_110 wi_X11_span wl_X11_X11_span wz_X11 wc_X11_span
theorem gv_L_113 : GoodIn lwG (wsV RL 113 RX11 yX11_led (wA yX11_led cX11_led 3 (some .int))) := gA4 wm_L_113 wi_X11_led wl_X11_X11_led wz_X11 wc_X11_led
theorem gv_L_116 : GoodIn lwG (wsV RL 116 RX11 yX11_log (wA yX11_log cX11_log 3 (some .int))) := gA4 wm_L_116 wi_X11_log wl_X11_X11_log wz_X11 wc_X11_log
theorem gv_L_123 : GoodIn lwG (wsV RL 123 RX11 yX11_feed (wA yX11_feed cX11_feed 6 (some .int))) := gA4 wm_L_123 wi_X11_feed wl_X11_X11_feed wz_X11 wc_X11_feed
theorem gv_L_127 : GoodIn lwG (wsV RL 127 RX12 yX12_feed (wA yX12_feed cX12_feed 8 (some .int))) := gA4 wm_L_127 wi_X12_feed wl_X12_X12_feed wz_X12 wc_X12_feed
theorem gv_L_128 : GoodIn lwG (wsV RL 128 RX11 yX11_end (wA yX11_end cX11_end 2 (some .boolean))) := gA4 wm_L_128 wi_X11_end wl_X11_X11_end wz_X11 wc_X11_end
theorem gv_L_132 : GoodIn lwG (wsV RL 132 RX12 yX12_end (wA yX12_end cX12_end 2 (some .boolean))) := gA4 wm_L_132 wi_X12_end wl_X12_X12_end wz_X12 wc_X12_end
theorem gv_L_138 : GoodIn lwG (wsV RL 138 RX12 yX12_town (wA yX12_town cX12_town 2 (some .int))) := gA4 wm_L_138 wi_X12_town wl_X12_X12_town wz_X12 wc_X12_town
theorem gv_L_139 : GoodIn lwG (wsV RL 139 RX12 yX12_thrown (wA yX12_thrown cX12_thrown 1 (some .int))) := gA4 wm_L_139 wi_X12_thrown wl_X12_X12_thrown wz_X12 wc_X12_thrown
theorem gv_L_144 : GoodIn lwG (wsV RL 144 RX12 yX12_law (wA yX12_law cX12_law 3 (some .int))) := gA4 wm_L_144 wi_X12_law wl_X12_X12_law wz_X12 wc_X12_law
theorem gv_L_145 : GoodIn lwG (wsV RL 145 RX11 yX11_fault (wA yX11_fault cX11_fault 1 (some .int))) := gA4 wm_L_145 wi_X11_fault wl_X11_X11_fault wz_X11 wc_X11_fault
theorem gv_L_148 : GoodIn lwG (wsV RL 148 RX12 yX12_fault (wA yX12_fault cX12_fault 1 (some .int))) := gA4 wm_L_148 wi_X12_fault wl_X12_X12_fault wz_X12 wc_X12_fault
theorem gv_L_152 : GoodIn lwG (wsV RL 152 RX12 yX12_person (wA yX12_person cX12_person 3 (some .int))) := gA4 wm_L_152 wi_X12_person wl_X12_X12_person wz_X12 wc_X12_person
theorem gv_L_155 : GoodIn lwG (wsV RL 155 RX12 yX12_liking (wA yX12_liking cX12_liking 3 (some .int))) := gA4 wm_L_155 wi_X12_liking wl_X12_X12_liking wz_X12 wc_X12_liking
theorem gv_L_158 : GoodIn lwG (wsV RL 158 RX12 yX12_match (wA yX12_match cX12_match 3 (some .int))) := gA4 wm_L_158 wi_X12_match wl_X12_X12_match wz_X12 wc_X12_match
theorem gv_L_161 : GoodIn lwG (wsV RL 161 RX12 yX12_ask (wA yX12_ask cX12_ask 4 (some .boolean))) := gA4 wm_L_161 wi_X12_ask wl_X12_X12_ask wz_X12 wc_X12_ask
theorem gv_L_164 : GoodIn lwG (wsV RL 164 RX12 yX12_wed (wA yX12_wed cX12_wed 3 (some .int))) := gA4 wm_L_164 wi_X12_wed wl_X12_X12_wed wz_X12 wc_X12_wed
theorem gv_L_167 : GoodIn lwG (wsV RL 167 RX12 yX12_gift (wA yX12_gift cX12_gift 3 (some .int))) := gA4 wm_L_167 wi_X12_gift wl_X12_X12_gift wz_X12 wc_X12_gift
theorem gv_L_17 : GoodIn lwG (wsV RL 17 RX11 yX11_law (wA yX11_law cX11_law 2 (some .int))) := gA4 wm_L_17 wi_X11_law wl_X11_X11_law wz_X11 wc_X11_law
theorem gv_L_170 : GoodIn lwG (wsV RL 170 RX12 yX12_meddle (wA yX12_meddle cX12_meddle 3 (some .int))) := gA4 wm_L_170 wi_X12_meddle wl_X12_X12_meddle wz_X12 wc_X12_meddle
theorem gv_L_173 : GoodIn lwG (wsV RL 173 RX12 yX12_reinsure (wA yX12_reinsure cX12_reinsure 4 (some .int))) := gA4 wm_L_173 wi_X12_reinsure wl_X12_X12_reinsure wz_X12 wc_X12_reinsure
theorem gv_L_177 : GoodIn lwG (wsV RL 177 RX12 yX12_part_ (wA yX12_part_ cX12_part_ 2 (some .int))) := gA4 wm_L_177 wi_X12_part_ wl_X12_X12_part_ wz_X12 wc_X12_part_
theorem gv_L_180 : GoodIn lwG (wsV RL 180 RX12 yX12_months (wA yX12_months cX12_months 2 (some .int))) := gA4 wm_L_180 wi_X12_months wl_X12_X12_months wz_X12 wc_X12_months
theorem gv_L_183 : GoodIn lwG (wsV RL 183 RX12 yX12_would (wA yX12_would cX12_would 3 (some .int))) := gA4 wm_L_183 wi_X12_would wl_X12_X12_would wz_X12 wc_X12_would
theorem gv_L_186 : GoodIn lwG (wsV RL 186 RX12 yX12_best (wA yX12_best cX12_best 5 (some .int))) := gA4 wm_L_186 wi_X12_best wl_X12_X12_best wz_X12 wc_X12_best
theorem gv_L_189 : GoodIn lwG (wsV RL 189 RX12 yX12_next (wA yX12_next cX12_next 3 (some .int))) := gA4 wm_L_189 wi_X12_next wl_X12_X12_next wz_X12 wc_X12_next
theorem gv_L_193 : GoodIn lwG (wsV RL 193 RX12 yX12_ahead (wA yX12_ahead cX12_ahead 5 (some .int))) := gA4 wm_L_193 wi_X12_ahead wl_X12_X12_ahead wz_X12 wc_X12_ahead
theorem gv_L_196 : GoodIn lwG (wsV RL 196 RX12 yX12_first (wA yX12_first cX12_first 5 (some .int))) := gA4 wm_L_196 wi_X12_first wl_X12_X12_first wz_X12 wc_X12_first
theorem gv_L_199 : GoodIn lwG (wsV RL 199 RX12 yX12_odds (wA yX12_odds cX12_odds 4 (some .int))) := gA4 wm_L_199 wi_X12_odds wl_X12_X12_odds wz_X12 wc_X12_odds
theorem gv_L_20 : GoodIn lwG (wsV RL 20 RX11 yX11_person (wA yX11_person cX11_person 3 (some .int))) := gA4 wm_L_20 wi_X11_person wl_X11_X11_person wz_X11 wc_X11_person
theorem gv_L_200 : GoodIn lwG (wsV RL 200 RX11 yX11_falls (wA yX11_falls cX11_falls 1 (some .int))) := gA4 wm_L_200 wi_X11_falls wl_X11_X11_falls wz_X11 wc_X11_falls
theorem gv_L_203 : GoodIn lwG (wsV RL 203 RX12 yX12_falls (wA yX12_falls cX12_falls 2 (some .int))) := gA4 wm_L_203 wi_X12_falls wl_X12_X12_falls wz_X12 wc_X12_falls
theorem gv_L_206 : GoodIn lwG (wsV RL 206 RX12 yX12_loses (wA yX12_loses cX12_loses 4 (some .int))) := gA4 wm_L_206 wi_X12_loses wl_X12_X12_loses wz_X12 wc_X12_loses
theorem gv_L_209 : GoodIn lwG (wsV RL 209 RX12 yX12_holds (wA yX12_holds cX12_holds 4 (some .int))) := gA4 wm_L_209 wi_X12_holds wl_X12_X12_holds wz_X12 wc_X12_holds
theorem gv_L_212 : GoodIn lwG (wsV RL 212 RX12 yX12_ring (wA yX12_ring cX12_ring 2 (some .int))) := gA4 wm_L_212 wi_X12_ring wl_X12_X12_ring wz_X12 wc_X12_ring
theorem gv_L_213 : GoodIn lwG (wsV RL 213 RX11 yX11_rings (wA yX11_rings cX11_rings 1 (some .int))) := gA4 wm_L_213 wi_X11_rings wl_X11_X11_rings wz_X11 wc_X11_rings
theorem gv_L_216 : GoodIn lwG (wsV RL 216 RX12 yX12_rings (wA yX12_rings cX12_rings 5 (some .int))) := gA4 wm_L_216 wi_X12_rings wl_X12_X12_rings wz_X12 wc_X12_rings
theorem gv_L_219 : GoodIn lwG (wsV RL 219 RX12 yX12_leans (wA yX12_leans cX12_leans 4 (some .int))) := gA4 wm_L_219 wi_X12_leans wl_X12_X12_leans wz_X12 wc_X12_leans
theorem gv_L_222 : GoodIn lwG (wsV RL 222 RX12 yX12_gifts (wA yX12_gifts cX12_gifts 6 (some .int))) := gA4 wm_L_222 wi_X12_gifts wl_X12_X12_gifts wz_X12 wc_X12_gifts
theorem gv_L_225 : GoodIn lwG (wsV RL 225 RX12 yX12_rather (wA yX12_rather cX12_rather 2 (some .int))) := gA4 wm_L_225 wi_X12_rather wl_X12_X12_rather wz_X12 wc_X12_rather
theorem gv_L_226 : GoodIn lwG (wsV RL 226 RX11 yX11_lovers (wA yX11_lovers cX11_lovers 2 (some .int))) := gA4 wm_L_226 wi_X11_lovers wl_X11_X11_lovers wz_X11 wc_X11_lovers
theorem gv_L_229 : GoodIn lwG (wsV RL 229 RX12 yX12_lovers (wA yX12_lovers cX12_lovers 6 (some .int))) := gA4 wm_L_229 wi_X12_lovers wl_X12_X12_lovers wz_X12 wc_X12_lovers
theorem gv_L_232 : GoodIn lwG (wsV RL 232 RX12 yX12_steady (wA yX12_steady cX12_steady 3 (some .int))) := gA4 wm_L_232 wi_X12_steady wl_X12_X12_steady wz_X12 wc_X12_steady
theorem gv_L_233 : GoodIn lwG (wsV RL 233 RX11 yX11_weddings (wA yX11_weddings cX11_weddings 1 (some .int))) := gA4 wm_L_233 wi_X11_weddings wl_X11_X11_weddings wz_X11 wc_X11_weddings
theorem gv_L_236 : GoodIn lwG (wsV RL 236 RX12 yX12_weddings (wA yX12_weddings cX12_weddings 7 (some .int))) := gA4 wm_L_236 wi_X12_weddings wl_X12_X12_weddings wz_X12 wc_X12_weddings
theorem gv_L_240 : GoodIn lwG (wsV RL 240 RX12 yX12_anniversary (wA yX12_anniversary cX12_anniversary 5 (some .int))) := gA4 wm_L_240 wi_X12_anniversary wl_X12_X12_anniversary wz_X12 wc_X12_anniversary
theorem gv_L_243 : GoodIn lwG (wsV RL 243 RX12 yX12_dance (wA yX12_dance cX12_dance 6 (some .int))) := gA4 wm_L_243 wi_X12_dance wl_X12_X12_dance wz_X12 wc_X12_dance
theorem gv_L_244 : GoodIn lwG (wsV RL 244 RX11 yX11_richest (wA yX11_richest cX11_richest 1 (some .int))) := gA4 wm_L_244 wi_X11_richest wl_X11_X11_richest wz_X11 wc_X11_richest
theorem gv_L_247 : GoodIn lwG (wsV RL 247 RX12 yX12_richest (wA yX12_richest cX12_richest 3 (some .int))) := gA4 wm_L_247 wi_X12_richest wl_X12_X12_richest wz_X12 wc_X12_richest
theorem gv_L_251 : GoodIn lwG (wsV RL 251 RX12 yX12_trial (wA yX12_trial cX12_trial 5 (some .int))) := gA4 wm_L_251 wi_X12_trial wl_X12_X12_trial wz_X12 wc_X12_trial
theorem gv_L_254 : GoodIn lwG (wsV RL 254 RX12 yX12_span (wA yX12_span cX12_span 6 (some .int))) := gA4 wm_L_254 wi_X12_span wl_X12_X12_span wz_X12 wc_X12_span
theorem gv_L_257 : GoodIn lwG (wsV RL 257 RX12 yX12_led (wA yX12_led cX12_led 5 (some .int))) := gA4 wm_L_257 wi_X12_led wl_X12_X12_led wz_X12 wc_X12_led
theorem gv_L_260 : GoodIn lwG (wsV RL 260 RX12 yX12_log (wA yX12_log cX12_log 3 (some .int))) := gA4 wm_L_260 wi_X12_log wl_X12_X12_log wz_X12 wc_X12_log
theorem gv_L_261 : GoodIn lwG (wsV RL 261 RX11 yX11_seed (wA yX11_seed cX11_seed 3 (some .int))) := gA4 wm_L_261 wi_X11_seed wl_X11_X11_seed wz_X11 wc_X11_seed
theorem gv_L_264 : GoodIn lwG (wsV RL 264 RX12 yX12_seed (wA yX12_seed cX12_seed 3 (some .int))) := gA4 wm_L_264 wi_X12_seed wl_X12_X12_seed wz_X12 wc_X12_seed
theorem gv_L_265 : GoodIn lwG (wsV RL 265 RX11 yX11_undo (wA yX11_undo cX11_undo 2 (some .boolean))) := gA4 wm_L_265 wi_X11_undo wl_X11_X11_undo wz_X11 wc_X11_undo
theorem gv_L_269 : GoodIn lwG (wsV RL 269 RX12 yX12_undo (wA yX12_undo cX12_undo 2 (some .boolean))) := gA4 wm_L_269 wi_X12_undo wl_X12_X12_undo wz_X12 wc_X12_undo
theorem gv_L_270 : GoodIn lwG (wsV RL 270 RX11 yX11_image (wA yX11_image cX11_image 1 none)) := gA4 wm_L_270 wi_X11_image wl_X11_X11_image wz_X11 wc_X11_image
theorem gv_L_273 : GoodIn lwG (wsV RL 273 RX12 yX12_image (wA yX12_image cX12_image 2 none)) := gA4 wm_L_273 wi_X12_image wl_X12_X12_image wz_X12 wc_X12_image
theorem gv_L_274 : GoodIn lwG (wsV RL 274 RX11 yX11_back (wA yX11_back cX11_back 1 (some .boolean))) := gA4 wm_L_274 wi_X11_back wl_X11_X11_back wz_X11 wc_X11_back
theorem gv_L_277 : GoodIn lwG (wsV RL 277 RX12 yX12_back (wA yX12_back cX12_back 2 (some .boolean))) := gA4 wm_L_277 wi_X12_back wl_X12_X12_back wz_X12 wc_X12_back
theorem gv_L_278 : GoodIn lwG (wsV RL 278 RX11 yX11_count (wA yX11_count cX11_count 2 (some .int))) := gA4 wm_L_278 wi_X11_count wl_X11_X11_count wz_X11 wc_X11_count
theorem gv_L_28 : GoodIn lwG (wsV RL 28 RX11 yX11_liking (wA yX11_liking cX11_liking 3 (some .int))) := gA4 wm_L_28 wi_X11_liking wl_X11_X11_liking wz_X11 wc_X11_liking
theorem gv_L_281 : GoodIn lwG (wsV RL 281 RX12 yX12_count (wA yX12_count cX12_count 2 (some .int))) := gA4 wm_L_281 wi_X12_count wl_X12_X12_count wz_X12 wc_X12_count
theorem gv_L_31 : GoodIn lwG (wsV RL 31 RX11 yX11_match (wA yX11_match cX11_match 3 (some .int))) := gA4 wm_L_31 wi_X11_match wl_X11_X11_match wz_X11 wc_X11_match
theorem gv_L_34 : GoodIn lwG (wsV RL 34 RX11 yX11_ask (wA yX11_ask cX11_ask 3 (some .boolean))) := gA4 wm_L_34 wi_X11_ask wl_X11_X11_ask wz_X11 wc_X11_ask
theorem gv_L_38 : GoodIn lwG (wsV RL 38 RX11 yX11_wed (wA yX11_wed cX11_wed 3 (some .int))) := gA4 wm_L_38 wi_X11_wed wl_X11_X11_wed wz_X11 wc_X11_wed
theorem gv_L_43 : GoodIn lwG (wsV RL 43 RX11 yX11_gift (wA yX11_gift cX11_gift 3 (some .int))) := gA4 wm_L_43 wi_X11_gift wl_X11_X11_gift wz_X11 wc_X11_gift
theorem gv_L_46 : GoodIn lwG (wsV RL 46 RX11 yX11_meddle (wA yX11_meddle cX11_meddle 3 (some .int))) := gA4 wm_L_46 wi_X11_meddle wl_X11_X11_meddle wz_X11 wc_X11_meddle
theorem gv_L_49 : GoodIn lwG (wsV RL 49 RX11 yX11_reinsure (wA yX11_reinsure cX11_reinsure 4 (some .int))) := gA4 wm_L_49 wi_X11_reinsure wl_X11_X11_reinsure wz_X11 wc_X11_reinsure
theorem gv_L_52 : GoodIn lwG (wsV RL 52 RX11 yX11_part (wA yX11_part cX11_part 2 (some .int))) := gA4 wm_L_52 wi_X11_part wl_X11_X11_part wz_X11 wc_X11_part
theorem gv_L_56 : GoodIn lwG (wsV RL 56 RX11 yX11_months (wA yX11_months cX11_months 4 (some .int))) := gA4 wm_L_56 wi_X11_months wl_X11_X11_months wz_X11 wc_X11_months
theorem gv_L_59 : GoodIn lwG (wsV RL 59 RX11 yX11_would (wA yX11_would cX11_would 3 (some .int))) := gA4 wm_L_59 wi_X11_would wl_X11_X11_would wz_X11 wc_X11_would
theorem gv_L_62 : GoodIn lwG (wsV RL 62 RX11 yX11_best (wA yX11_best cX11_best 2 (some .int))) := gA4 wm_L_62 wi_X11_best wl_X11_X11_best wz_X11 wc_X11_best
theorem gv_L_65 : GoodIn lwG (wsV RL 65 RX11 yX11_next (wA yX11_next cX11_next 3 (some .int))) := gA4 wm_L_65 wi_X11_next wl_X11_X11_next wz_X11 wc_X11_next
theorem gv_L_68 : GoodIn lwG (wsV RL 68 RX11 yX11_ahead (wA yX11_ahead cX11_ahead 4 (some .int))) := gA4 wm_L_68 wi_X11_ahead wl_X11_X11_ahead wz_X11 wc_X11_ahead
theorem gv_L_7 : GoodIn lwG (wsV RL 7 RX11 yX11_town (wA yX11_town cX11_town 1 (some .int))) := gA4 wm_L_7 wi_X11_town wl_X11_X11_town wz_X11 wc_X11_town
theorem gv_L_72 : GoodIn lwG (wsV RL 72 RX11 yX11_first (wA yX11_first cX11_first 3 (some .int))) := gA4 wm_L_72 wi_X11_first wl_X11_X11_first wz_X11 wc_X11_first
theorem gv_L_75 : GoodIn lwG (wsV RL 75 RX11 yX11_odds (wA yX11_odds cX11_odds 2 (some .int))) := gA4 wm_L_75 wi_X11_odds wl_X11_X11_odds wz_X11 wc_X11_odds
theorem gv_L_78 : GoodIn lwG (wsV RL 78 RX11 yX11_loses (wA yX11_loses cX11_loses 2 (some .int))) := gA4 wm_L_78 wi_X11_loses wl_X11_X11_loses wz_X11 wc_X11_loses
theorem gv_L_81 : GoodIn lwG (wsV RL 81 RX11 yX11_holds (wA yX11_holds cX11_holds 2 (some .int))) := gA4 wm_L_81 wi_X11_holds wl_X11_X11_holds wz_X11 wc_X11_holds
theorem gv_L_84 : GoodIn lwG (wsV RL 84 RX11 yX11_ring (wA yX11_ring cX11_ring 2 (some .int))) := gA4 wm_L_84 wi_X11_ring wl_X11_X11_ring wz_X11 wc_X11_ring
theorem gv_L_87 : GoodIn lwG (wsV RL 87 RX11 yX11_leans (wA yX11_leans cX11_leans 2 (some .int))) := gA4 wm_L_87 wi_X11_leans wl_X11_X11_leans wz_X11 wc_X11_leans
theorem gv_L_90 : GoodIn lwG (wsV RL 90 RX11 yX11_gifts (wA yX11_gifts cX11_gifts 4 (some .int))) := gA4 wm_L_90 wi_X11_gifts wl_X11_X11_gifts wz_X11 wc_X11_gifts
theorem gv_L_93 : GoodIn lwG (wsV RL 93 RX11 yX11_rather (wA yX11_rather cX11_rather 2 (some .int))) := gA4 wm_L_93 wi_X11_rather wl_X11_X11_rather wz_X11 wc_X11_rather
theorem gv_L_96 : GoodIn lwG (wsV RL 96 RX11 yX11_steady (wA yX11_steady cX11_steady 2 (some .int))) := gA4 wm_L_96 wi_X11_steady wl_X11_X11_steady wz_X11 wc_X11_steady
theorem gv_L_99 : GoodIn lwG (wsV RL 99 RX11 yX11_anniversary (wA yX11_anniversary cX11_anniversary 2 (some .int))) := gA4 wm_L_99 wi_X11_anniversary wl_X11_X11_anniversary wz_X11 wc_X11_anniversary

theorem yk_X11_town : yX11_town.cls = RX11 ∧ yX11_town.cls ≠ "java/lang/invoke/MethodHandle" ∧ yX11_town.cls ≠ "java/lang/invoke/VarHandle" ∧ (parseMethodDescriptor yX11_town.desc).map (fun d => d.parameters.length) = some 0 := ⟨rfl, by decide +kernel, by decide +kernel, by decide +kernel⟩
theorem yk_X11_law : yX11_law.cls = RX11 ∧ yX11_law.cls ≠ "java/lang/invoke/MethodHandle" ∧ yX11_law.cls ≠ "java/lang/invoke/VarHandle" ∧ (parseMethodDescriptor yX11_law.desc).map (fun d => d.parameters.length) = some 0 := ⟨rfl, by decide +kernel, by decide +kernel, by decide +kernel⟩
theorem yk_X11_person : yX11_person.cls = RX11 ∧ yX11_person.cls ≠ "java/lang/invoke/MethodHandle" ∧ yX11_person.cls ≠ "java/lang/invoke/VarHandle" ∧ (parseMethodDescriptor yX11_person.desc).map (fun d => d.parameters.length) = some 2 := ⟨rfl, by decide +kernel, by decide +kernel, by decide +kernel⟩
theorem yk_X11_liking : yX11_liking.cls = RX11 ∧ yX11_liking.cls ≠ "java/lang/invoke/MethodHandle" ∧ yX11_liking.cls ≠ "java/lang/invoke/VarHandle" ∧ (parseMethodDescriptor yX11_liking.desc).map (fun d => d.parameters.length) = some 2 := ⟨rfl, by decide +kernel, by decide +kernel, by decide +kernel⟩
theorem yk_X11_match : yX11_match.cls = RX11 ∧ yX11_match.cls ≠ "java/lang/invoke/MethodHandle" ∧ yX11_match.cls ≠ "java/lang/invoke/VarHandle" ∧ (parseMethodDescriptor yX11_match.desc).map (fun d => d.parameters.length) = some 2 := ⟨rfl, by decide +kernel, by decide +kernel, by decide +kernel⟩
theorem yk_X11_ask : yX11_ask.cls = RX11 ∧ yX11_ask.cls ≠ "java/lang/invoke/MethodHandle" ∧ yX11_ask.cls ≠ "java/lang/invoke/VarHandle" ∧ (parseMethodDescriptor yX11_ask.desc).map (fun d => d.parameters.length) = some 2 := ⟨rfl, by decide +kernel, by decide +kernel, by decide +kernel⟩
theorem yk_X11_wed : yX11_wed.cls = RX11 ∧ yX11_wed.cls ≠ "java/lang/invoke/MethodHandle" ∧ yX11_wed.cls ≠ "java/lang/invoke/VarHandle" ∧ (parseMethodDescriptor yX11_wed.desc).map (fun d => d.parameters.length) = some 2 := ⟨rfl, by decide +kernel, by decide +kernel, by decide +kernel⟩
theorem yk_X11_gift : yX11_gift.cls = RX11 ∧ yX11_gift.cls ≠ "java/lang/invoke/MethodHandle" ∧ yX11_gift.cls ≠ "java/lang/invoke/VarHandle" ∧ (parseMethodDescriptor yX11_gift.desc).map (fun d => d.parameters.length) = some 2 := ⟨rfl, by decide +kernel, by decide +kernel, by decide +kernel⟩
theorem yk_X11_meddle : yX11_meddle.cls = RX11 ∧ yX11_meddle.cls ≠ "java/lang/invoke/MethodHandle" ∧ yX11_meddle.cls ≠ "java/lang/invoke/VarHandle" ∧ (parseMethodDescriptor yX11_meddle.desc).map (fun d => d.parameters.length) = some 2 := ⟨rfl, by decide +kernel, by decide +kernel, by decide +kernel⟩
theorem yk_X11_reinsure : yX11_reinsure.cls = RX11 ∧ yX11_reinsure.cls ≠ "java/lang/invoke/MethodHandle" ∧ yX11_reinsure.cls ≠ "java/lang/invoke/VarHandle" ∧ (parseMethodDescriptor yX11_reinsure.desc).map (fun d => d.parameters.length) = some 2 := ⟨rfl, by decide +kernel, by decide +kernel, by decide +kernel⟩
theorem yk_X11_part : yX11_part.cls = RX11 ∧ yX11_part.cls ≠ "java/lang/invoke/MethodHandle" ∧ yX11_part.cls ≠ "java/lang/invoke/VarHandle" ∧ (parseMethodDescriptor yX11_part.desc).map (fun d => d.parameters.length) = some 1 := ⟨rfl, by decide +kernel, by decide +kernel, by decide +kernel⟩
theorem yk_X11_months : yX11_months.cls = RX11 ∧ yX11_months.cls ≠ "java/lang/invoke/MethodHandle" ∧ yX11_months.cls ≠ "java/lang/invoke/VarHandle" ∧ (parseMethodDescriptor yX11_months.desc).map (fun d => d.parameters.length) = some 1 := ⟨rfl, by decide +kernel, by decide +kernel, by decide +kernel⟩
theorem yk_X11_would : yX11_would.cls = RX11 ∧ yX11_would.cls ≠ "java/lang/invoke/MethodHandle" ∧ yX11_would.cls ≠ "java/lang/invoke/VarHandle" ∧ (parseMethodDescriptor yX11_would.desc).map (fun d => d.parameters.length) = some 2 := ⟨rfl, by decide +kernel, by decide +kernel, by decide +kernel⟩
theorem yk_X11_best : yX11_best.cls = RX11 ∧ yX11_best.cls ≠ "java/lang/invoke/MethodHandle" ∧ yX11_best.cls ≠ "java/lang/invoke/VarHandle" ∧ (parseMethodDescriptor yX11_best.desc).map (fun d => d.parameters.length) = some 1 := ⟨rfl, by decide +kernel, by decide +kernel, by decide +kernel⟩
theorem yk_X11_next : yX11_next.cls = RX11 ∧ yX11_next.cls ≠ "java/lang/invoke/MethodHandle" ∧ yX11_next.cls ≠ "java/lang/invoke/VarHandle" ∧ (parseMethodDescriptor yX11_next.desc).map (fun d => d.parameters.length) = some 2 := ⟨rfl, by decide +kernel, by decide +kernel, by decide +kernel⟩
theorem yk_X11_ahead : yX11_ahead.cls = RX11 ∧ yX11_ahead.cls ≠ "java/lang/invoke/MethodHandle" ∧ yX11_ahead.cls ≠ "java/lang/invoke/VarHandle" ∧ (parseMethodDescriptor yX11_ahead.desc).map (fun d => d.parameters.length) = some 3 := ⟨rfl, by decide +kernel, by decide +kernel, by decide +kernel⟩
theorem yk_X11_first : yX11_first.cls = RX11 ∧ yX11_first.cls ≠ "java/lang/invoke/MethodHandle" ∧ yX11_first.cls ≠ "java/lang/invoke/VarHandle" ∧ (parseMethodDescriptor yX11_first.desc).map (fun d => d.parameters.length) = some 2 := ⟨rfl, by decide +kernel, by decide +kernel, by decide +kernel⟩
theorem yk_X11_odds : yX11_odds.cls = RX11 ∧ yX11_odds.cls ≠ "java/lang/invoke/MethodHandle" ∧ yX11_odds.cls ≠ "java/lang/invoke/VarHandle" ∧ (parseMethodDescriptor yX11_odds.desc).map (fun d => d.parameters.length) = some 1 := ⟨rfl, by decide +kernel, by decide +kernel, by decide +kernel⟩
theorem yk_X11_loses : yX11_loses.cls = RX11 ∧ yX11_loses.cls ≠ "java/lang/invoke/MethodHandle" ∧ yX11_loses.cls ≠ "java/lang/invoke/VarHandle" ∧ (parseMethodDescriptor yX11_loses.desc).map (fun d => d.parameters.length) = some 1 := ⟨rfl, by decide +kernel, by decide +kernel, by decide +kernel⟩
theorem yk_X11_holds : yX11_holds.cls = RX11 ∧ yX11_holds.cls ≠ "java/lang/invoke/MethodHandle" ∧ yX11_holds.cls ≠ "java/lang/invoke/VarHandle" ∧ (parseMethodDescriptor yX11_holds.desc).map (fun d => d.parameters.length) = some 1 := ⟨rfl, by decide +kernel, by decide +kernel, by decide +kernel⟩
theorem yk_X11_ring : yX11_ring.cls = RX11 ∧ yX11_ring.cls ≠ "java/lang/invoke/MethodHandle" ∧ yX11_ring.cls ≠ "java/lang/invoke/VarHandle" ∧ (parseMethodDescriptor yX11_ring.desc).map (fun d => d.parameters.length) = some 1 := ⟨rfl, by decide +kernel, by decide +kernel, by decide +kernel⟩
theorem yk_X11_leans : yX11_leans.cls = RX11 ∧ yX11_leans.cls ≠ "java/lang/invoke/MethodHandle" ∧ yX11_leans.cls ≠ "java/lang/invoke/VarHandle" ∧ (parseMethodDescriptor yX11_leans.desc).map (fun d => d.parameters.length) = some 1 := ⟨rfl, by decide +kernel, by decide +kernel, by decide +kernel⟩
theorem yk_X11_gifts : yX11_gifts.cls = RX11 ∧ yX11_gifts.cls ≠ "java/lang/invoke/MethodHandle" ∧ yX11_gifts.cls ≠ "java/lang/invoke/VarHandle" ∧ (parseMethodDescriptor yX11_gifts.desc).map (fun d => d.parameters.length) = some 3 := ⟨rfl, by decide +kernel, by decide +kernel, by decide +kernel⟩
theorem yk_X11_rather : yX11_rather.cls = RX11 ∧ yX11_rather.cls ≠ "java/lang/invoke/MethodHandle" ∧ yX11_rather.cls ≠ "java/lang/invoke/VarHandle" ∧ (parseMethodDescriptor yX11_rather.desc).map (fun d => d.parameters.length) = some 1 := ⟨rfl, by decide +kernel, by decide +kernel, by decide +kernel⟩
theorem yk_X11_steady : yX11_steady.cls = RX11 ∧ yX11_steady.cls ≠ "java/lang/invoke/MethodHandle" ∧ yX11_steady.cls ≠ "java/lang/invoke/VarHandle" ∧ (parseMethodDescriptor yX11_steady.desc).map (fun d => d.parameters.length) = some 1 := ⟨rfl, by decide +kernel, by decide +kernel, by decide +kernel⟩
theorem yk_X11_anniversary : yX11_anniversary.cls = RX11 ∧ yX11_anniversary.cls ≠ "java/lang/invoke/MethodHandle" ∧ yX11_anniversary.cls ≠ "java/lang/invoke/VarHandle" ∧ (parseMethodDescriptor yX11_anniversary.desc).map (fun d => d.parameters.length) = some 1 := ⟨rfl, by decide +kernel, by decide +kernel, by decide +kernel⟩
theorem yk_X11_dance : yX11_dance.cls = RX11 ∧ yX11_dance.cls ≠ "java/lang/invoke/MethodHandle" ∧ yX11_dance.cls ≠ "java/lang/invoke/VarHandle" ∧ (parseMethodDescriptor yX11_dance.desc).map (fun d => d.parameters.length) = some 0 := ⟨rfl, by decide +kernel, by decide +kernel, by decide +kernel⟩
theorem yk_X11_trial : yX11_trial.cls = RX11 ∧ yX11_trial.cls ≠ "java/lang/invoke/MethodHandle" ∧ yX11_trial.cls ≠ "java/lang/invoke/VarHandle" ∧ (parseMethodDescriptor yX11_trial.desc).map (fun d => d.parameters.length) = some 2 := ⟨rfl, by decide +kernel, by decide +kernel, by decide +kernel⟩
theorem yk_X11_span : yX11_span.cls = RX11 ∧ yX11_span.cls ≠ "java/lang/invoke/MethodHandle" ∧ yX11_span.cls ≠ "java/lang/invoke/VarHandle" ∧ (parseMethodDescriptor yX11_span.desc).map (fun d => d.parameters.length) = some 2 := ⟨rfl, by decide +kernel, by decide +kernel, by decide +kernel⟩
theorem yk_X11_led : yX11_led.cls = RX11 ∧ yX11_led.cls ≠ "java/lang/invoke/MethodHandle" ∧ yX11_led.cls ≠ "java/lang/invoke/VarHandle" ∧ (parseMethodDescriptor yX11_led.desc).map (fun d => d.parameters.length) = some 2 := ⟨rfl, by decide +kernel, by decide +kernel, by decide +kernel⟩
theorem yk_X11_log : yX11_log.cls = RX11 ∧ yX11_log.cls ≠ "java/lang/invoke/MethodHandle" ∧ yX11_log.cls ≠ "java/lang/invoke/VarHandle" ∧ (parseMethodDescriptor yX11_log.desc).map (fun d => d.parameters.length) = some 2 := ⟨rfl, by decide +kernel, by decide +kernel, by decide +kernel⟩
theorem yk_X11_feed : yX11_feed.cls = RX11 ∧ yX11_feed.cls ≠ "java/lang/invoke/MethodHandle" ∧ yX11_feed.cls ≠ "java/lang/invoke/VarHandle" ∧ (parseMethodDescriptor yX11_feed.desc).map (fun d => d.parameters.length) = some 5 := ⟨rfl, by decide +kernel, by decide +kernel, by decide +kernel⟩
theorem yk_X12_feed : yX12_feed.cls = RX12 ∧ yX12_feed.cls ≠ "java/lang/invoke/MethodHandle" ∧ yX12_feed.cls ≠ "java/lang/invoke/VarHandle" ∧ (parseMethodDescriptor yX12_feed.desc).map (fun d => d.parameters.length) = some 5 := ⟨rfl, by decide +kernel, by decide +kernel, by decide +kernel⟩
theorem yk_X11_end : yX11_end.cls = RX11 ∧ yX11_end.cls ≠ "java/lang/invoke/MethodHandle" ∧ yX11_end.cls ≠ "java/lang/invoke/VarHandle" ∧ (parseMethodDescriptor yX11_end.desc).map (fun d => d.parameters.length) = some 1 := ⟨rfl, by decide +kernel, by decide +kernel, by decide +kernel⟩
theorem yk_X12_end : yX12_end.cls = RX12 ∧ yX12_end.cls ≠ "java/lang/invoke/MethodHandle" ∧ yX12_end.cls ≠ "java/lang/invoke/VarHandle" ∧ (parseMethodDescriptor yX12_end.desc).map (fun d => d.parameters.length) = some 1 := ⟨rfl, by decide +kernel, by decide +kernel, by decide +kernel⟩
theorem ykh_L_town : yL_town.cls ≠ "java/lang/invoke/MethodHandle" ∧ yL_town.cls ≠ "java/lang/invoke/VarHandle" ∧ (parseMethodDescriptor yL_town.desc).map (fun d => d.parameters.length) = some 2 := ⟨by decide +kernel, by decide +kernel, by decide +kernel⟩
theorem yk_X12_town : yX12_town.cls = RX12 ∧ yX12_town.cls ≠ "java/lang/invoke/MethodHandle" ∧ yX12_town.cls ≠ "java/lang/invoke/VarHandle" ∧ (parseMethodDescriptor yX12_town.desc).map (fun d => d.parameters.length) = some 0 := ⟨rfl, by decide +kernel, by decide +kernel, by decide +kernel⟩
theorem yk_X12_thrown : yX12_thrown.cls = RX12 ∧ yX12_thrown.cls ≠ "java/lang/invoke/MethodHandle" ∧ yX12_thrown.cls ≠ "java/lang/invoke/VarHandle" ∧ (parseMethodDescriptor yX12_thrown.desc).map (fun d => d.parameters.length) = some 0 := ⟨rfl, by decide +kernel, by decide +kernel, by decide +kernel⟩
theorem ykh_L_law : yL_law.cls ≠ "java/lang/invoke/MethodHandle" ∧ yL_law.cls ≠ "java/lang/invoke/VarHandle" ∧ (parseMethodDescriptor yL_law.desc).map (fun d => d.parameters.length) = some 2 := ⟨by decide +kernel, by decide +kernel, by decide +kernel⟩
theorem yk_X12_law : yX12_law.cls = RX12 ∧ yX12_law.cls ≠ "java/lang/invoke/MethodHandle" ∧ yX12_law.cls ≠ "java/lang/invoke/VarHandle" ∧ (parseMethodDescriptor yX12_law.desc).map (fun d => d.parameters.length) = some 0 := ⟨rfl, by decide +kernel, by decide +kernel, by decide +kernel⟩
theorem yk_X11_fault : yX11_fault.cls = RX11 ∧ yX11_fault.cls ≠ "java/lang/invoke/MethodHandle" ∧ yX11_fault.cls ≠ "java/lang/invoke/VarHandle" ∧ (parseMethodDescriptor yX11_fault.desc).map (fun d => d.parameters.length) = some 0 := ⟨rfl, by decide +kernel, by decide +kernel, by decide +kernel⟩
theorem yk_X12_fault : yX12_fault.cls = RX12 ∧ yX12_fault.cls ≠ "java/lang/invoke/MethodHandle" ∧ yX12_fault.cls ≠ "java/lang/invoke/VarHandle" ∧ (parseMethodDescriptor yX12_fault.desc).map (fun d => d.parameters.length) = some 0 := ⟨rfl, by decide +kernel, by decide +kernel, by decide +kernel⟩
theorem ykh_L_person : yL_person.cls ≠ "java/lang/invoke/MethodHandle" ∧ yL_person.cls ≠ "java/lang/invoke/VarHandle" ∧ (parseMethodDescriptor yL_person.desc).map (fun d => d.parameters.length) = some 4 := ⟨by decide +kernel, by decide +kernel, by decide +kernel⟩
theorem yk_X12_person : yX12_person.cls = RX12 ∧ yX12_person.cls ≠ "java/lang/invoke/MethodHandle" ∧ yX12_person.cls ≠ "java/lang/invoke/VarHandle" ∧ (parseMethodDescriptor yX12_person.desc).map (fun d => d.parameters.length) = some 2 := ⟨rfl, by decide +kernel, by decide +kernel, by decide +kernel⟩
theorem ykh_L_liking : yL_liking.cls ≠ "java/lang/invoke/MethodHandle" ∧ yL_liking.cls ≠ "java/lang/invoke/VarHandle" ∧ (parseMethodDescriptor yL_liking.desc).map (fun d => d.parameters.length) = some 4 := ⟨by decide +kernel, by decide +kernel, by decide +kernel⟩
theorem yk_X12_liking : yX12_liking.cls = RX12 ∧ yX12_liking.cls ≠ "java/lang/invoke/MethodHandle" ∧ yX12_liking.cls ≠ "java/lang/invoke/VarHandle" ∧ (parseMethodDescriptor yX12_liking.desc).map (fun d => d.parameters.length) = some 2 := ⟨rfl, by decide +kernel, by decide +kernel, by decide +kernel⟩
theorem ykh_L_match : yL_match.cls ≠ "java/lang/invoke/MethodHandle" ∧ yL_match.cls ≠ "java/lang/invoke/VarHandle" ∧ (parseMethodDescriptor yL_match.desc).map (fun d => d.parameters.length) = some 4 := ⟨by decide +kernel, by decide +kernel, by decide +kernel⟩
theorem yk_X12_match : yX12_match.cls = RX12 ∧ yX12_match.cls ≠ "java/lang/invoke/MethodHandle" ∧ yX12_match.cls ≠ "java/lang/invoke/VarHandle" ∧ (parseMethodDescriptor yX12_match.desc).map (fun d => d.parameters.length) = some 2 := ⟨rfl, by decide +kernel, by decide +kernel, by decide +kernel⟩
theorem ykh_L_ask : yL_ask.cls ≠ "java/lang/invoke/MethodHandle" ∧ yL_ask.cls ≠ "java/lang/invoke/VarHandle" ∧ (parseMethodDescriptor yL_ask.desc).map (fun d => d.parameters.length) = some 4 := ⟨by decide +kernel, by decide +kernel, by decide +kernel⟩
theorem yk_X12_ask : yX12_ask.cls = RX12 ∧ yX12_ask.cls ≠ "java/lang/invoke/MethodHandle" ∧ yX12_ask.cls ≠ "java/lang/invoke/VarHandle" ∧ (parseMethodDescriptor yX12_ask.desc).map (fun d => d.parameters.length) = some 2 := ⟨rfl, by decide +kernel, by decide +kernel, by decide +kernel⟩
theorem ykh_L_wed : yL_wed.cls ≠ "java/lang/invoke/MethodHandle" ∧ yL_wed.cls ≠ "java/lang/invoke/VarHandle" ∧ (parseMethodDescriptor yL_wed.desc).map (fun d => d.parameters.length) = some 4 := ⟨by decide +kernel, by decide +kernel, by decide +kernel⟩
theorem yk_X12_wed : yX12_wed.cls = RX12 ∧ yX12_wed.cls ≠ "java/lang/invoke/MethodHandle" ∧ yX12_wed.cls ≠ "java/lang/invoke/VarHandle" ∧ (parseMethodDescriptor yX12_wed.desc).map (fun d => d.parameters.length) = some 2 := ⟨rfl, by decide +kernel, by decide +kernel, by decide +kernel⟩
theorem ykh_L_gift : yL_gift.cls ≠ "java/lang/invoke/MethodHandle" ∧ yL_gift.cls ≠ "java/lang/invoke/VarHandle" ∧ (parseMethodDescriptor yL_gift.desc).map (fun d => d.parameters.length) = some 4 := ⟨by decide +kernel, by decide +kernel, by decide +kernel⟩
theorem yk_X12_gift : yX12_gift.cls = RX12 ∧ yX12_gift.cls ≠ "java/lang/invoke/MethodHandle" ∧ yX12_gift.cls ≠ "java/lang/invoke/VarHandle" ∧ (parseMethodDescriptor yX12_gift.desc).map (fun d => d.parameters.length) = some 2 := ⟨rfl, by decide +kernel, by decide +kernel, by decide +kernel⟩
theorem ykh_L_meddle : yL_meddle.cls ≠ "java/lang/invoke/MethodHandle" ∧ yL_meddle.cls ≠ "java/lang/invoke/VarHandle" ∧ (parseMethodDescriptor yL_meddle.desc).map (fun d => d.parameters.length) = some 4 := ⟨by decide +kernel, by decide +kernel, by decide +kernel⟩
theorem yk_X12_meddle : yX12_meddle.cls = RX12 ∧ yX12_meddle.cls ≠ "java/lang/invoke/MethodHandle" ∧ yX12_meddle.cls ≠ "java/lang/invoke/VarHandle" ∧ (parseMethodDescriptor yX12_meddle.desc).map (fun d => d.parameters.length) = some 2 := ⟨rfl, by decide +kernel, by decide +kernel, by decide +kernel⟩
theorem ykh_L_reinsure : yL_reinsure.cls ≠ "java/lang/invoke/MethodHandle" ∧ yL_reinsure.cls ≠ "java/lang/invoke/VarHandle" ∧ (parseMethodDescriptor yL_reinsure.desc).map (fun d => d.parameters.length) = some 4 := ⟨by decide +kernel, by decide +kernel, by decide +kernel⟩
theorem yk_X12_reinsure : yX12_reinsure.cls = RX12 ∧ yX12_reinsure.cls ≠ "java/lang/invoke/MethodHandle" ∧ yX12_reinsure.cls ≠ "java/lang/invoke/VarHandle" ∧ (parseMethodDescriptor yX12_reinsure.desc).map (fun d => d.parameters.length) = some 2 := ⟨rfl, by decide +kernel, by decide +kernel, by decide +kernel⟩
theorem ykh_L_part : yL_part.cls ≠ "java/lang/invoke/MethodHandle" ∧ yL_part.cls ≠ "java/lang/invoke/VarHandle" ∧ (parseMethodDescriptor yL_part.desc).map (fun d => d.parameters.length) = some 3 := ⟨by decide +kernel, by decide +kernel, by decide +kernel⟩
theorem yk_X12_part_ : yX12_part_.cls = RX12 ∧ yX12_part_.cls ≠ "java/lang/invoke/MethodHandle" ∧ yX12_part_.cls ≠ "java/lang/invoke/VarHandle" ∧ (parseMethodDescriptor yX12_part_.desc).map (fun d => d.parameters.length) = some 1 := ⟨rfl, by decide +kernel, by decide +kernel, by decide +kernel⟩
theorem ykh_L_months : yL_months.cls ≠ "java/lang/invoke/MethodHandle" ∧ yL_months.cls ≠ "java/lang/invoke/VarHandle" ∧ (parseMethodDescriptor yL_months.desc).map (fun d => d.parameters.length) = some 3 := ⟨by decide +kernel, by decide +kernel, by decide +kernel⟩
theorem yk_X12_months : yX12_months.cls = RX12 ∧ yX12_months.cls ≠ "java/lang/invoke/MethodHandle" ∧ yX12_months.cls ≠ "java/lang/invoke/VarHandle" ∧ (parseMethodDescriptor yX12_months.desc).map (fun d => d.parameters.length) = some 1 := ⟨rfl, by decide +kernel, by decide +kernel, by decide +kernel⟩
theorem ykh_L_would : yL_would.cls ≠ "java/lang/invoke/MethodHandle" ∧ yL_would.cls ≠ "java/lang/invoke/VarHandle" ∧ (parseMethodDescriptor yL_would.desc).map (fun d => d.parameters.length) = some 4 := ⟨by decide +kernel, by decide +kernel, by decide +kernel⟩
theorem yk_X12_would : yX12_would.cls = RX12 ∧ yX12_would.cls ≠ "java/lang/invoke/MethodHandle" ∧ yX12_would.cls ≠ "java/lang/invoke/VarHandle" ∧ (parseMethodDescriptor yX12_would.desc).map (fun d => d.parameters.length) = some 2 := ⟨rfl, by decide +kernel, by decide +kernel, by decide +kernel⟩
theorem ykh_L_best : yL_best.cls ≠ "java/lang/invoke/MethodHandle" ∧ yL_best.cls ≠ "java/lang/invoke/VarHandle" ∧ (parseMethodDescriptor yL_best.desc).map (fun d => d.parameters.length) = some 3 := ⟨by decide +kernel, by decide +kernel, by decide +kernel⟩
theorem yk_X12_best : yX12_best.cls = RX12 ∧ yX12_best.cls ≠ "java/lang/invoke/MethodHandle" ∧ yX12_best.cls ≠ "java/lang/invoke/VarHandle" ∧ (parseMethodDescriptor yX12_best.desc).map (fun d => d.parameters.length) = some 1 := ⟨rfl, by decide +kernel, by decide +kernel, by decide +kernel⟩
theorem ykh_L_next : yL_next.cls ≠ "java/lang/invoke/MethodHandle" ∧ yL_next.cls ≠ "java/lang/invoke/VarHandle" ∧ (parseMethodDescriptor yL_next.desc).map (fun d => d.parameters.length) = some 4 := ⟨by decide +kernel, by decide +kernel, by decide +kernel⟩
theorem yk_X12_next : yX12_next.cls = RX12 ∧ yX12_next.cls ≠ "java/lang/invoke/MethodHandle" ∧ yX12_next.cls ≠ "java/lang/invoke/VarHandle" ∧ (parseMethodDescriptor yX12_next.desc).map (fun d => d.parameters.length) = some 2 := ⟨rfl, by decide +kernel, by decide +kernel, by decide +kernel⟩
theorem ykh_L_ahead : yL_ahead.cls ≠ "java/lang/invoke/MethodHandle" ∧ yL_ahead.cls ≠ "java/lang/invoke/VarHandle" ∧ (parseMethodDescriptor yL_ahead.desc).map (fun d => d.parameters.length) = some 5 := ⟨by decide +kernel, by decide +kernel, by decide +kernel⟩
theorem yk_X12_ahead : yX12_ahead.cls = RX12 ∧ yX12_ahead.cls ≠ "java/lang/invoke/MethodHandle" ∧ yX12_ahead.cls ≠ "java/lang/invoke/VarHandle" ∧ (parseMethodDescriptor yX12_ahead.desc).map (fun d => d.parameters.length) = some 3 := ⟨rfl, by decide +kernel, by decide +kernel, by decide +kernel⟩
theorem ykh_L_first : yL_first.cls ≠ "java/lang/invoke/MethodHandle" ∧ yL_first.cls ≠ "java/lang/invoke/VarHandle" ∧ (parseMethodDescriptor yL_first.desc).map (fun d => d.parameters.length) = some 4 := ⟨by decide +kernel, by decide +kernel, by decide +kernel⟩
theorem yk_X12_first : yX12_first.cls = RX12 ∧ yX12_first.cls ≠ "java/lang/invoke/MethodHandle" ∧ yX12_first.cls ≠ "java/lang/invoke/VarHandle" ∧ (parseMethodDescriptor yX12_first.desc).map (fun d => d.parameters.length) = some 2 := ⟨rfl, by decide +kernel, by decide +kernel, by decide +kernel⟩
theorem ykh_L_odds : yL_odds.cls ≠ "java/lang/invoke/MethodHandle" ∧ yL_odds.cls ≠ "java/lang/invoke/VarHandle" ∧ (parseMethodDescriptor yL_odds.desc).map (fun d => d.parameters.length) = some 3 := ⟨by decide +kernel, by decide +kernel, by decide +kernel⟩
theorem yk_X12_odds : yX12_odds.cls = RX12 ∧ yX12_odds.cls ≠ "java/lang/invoke/MethodHandle" ∧ yX12_odds.cls ≠ "java/lang/invoke/VarHandle" ∧ (parseMethodDescriptor yX12_odds.desc).map (fun d => d.parameters.length) = some 1 := ⟨rfl, by decide +kernel, by decide +kernel, by decide +kernel⟩
theorem yk_X11_falls : yX11_falls.cls = RX11 ∧ yX11_falls.cls ≠ "java/lang/invoke/MethodHandle" ∧ yX11_falls.cls ≠ "java/lang/invoke/VarHandle" ∧ (parseMethodDescriptor yX11_falls.desc).map (fun d => d.parameters.length) = some 0 := ⟨rfl, by decide +kernel, by decide +kernel, by decide +kernel⟩
theorem yk_X12_falls : yX12_falls.cls = RX12 ∧ yX12_falls.cls ≠ "java/lang/invoke/MethodHandle" ∧ yX12_falls.cls ≠ "java/lang/invoke/VarHandle" ∧ (parseMethodDescriptor yX12_falls.desc).map (fun d => d.parameters.length) = some 0 := ⟨rfl, by decide +kernel, by decide +kernel, by decide +kernel⟩
theorem ykh_L_loses : yL_loses.cls ≠ "java/lang/invoke/MethodHandle" ∧ yL_loses.cls ≠ "java/lang/invoke/VarHandle" ∧ (parseMethodDescriptor yL_loses.desc).map (fun d => d.parameters.length) = some 3 := ⟨by decide +kernel, by decide +kernel, by decide +kernel⟩
theorem yk_X12_loses : yX12_loses.cls = RX12 ∧ yX12_loses.cls ≠ "java/lang/invoke/MethodHandle" ∧ yX12_loses.cls ≠ "java/lang/invoke/VarHandle" ∧ (parseMethodDescriptor yX12_loses.desc).map (fun d => d.parameters.length) = some 1 := ⟨rfl, by decide +kernel, by decide +kernel, by decide +kernel⟩
theorem ykh_L_holds : yL_holds.cls ≠ "java/lang/invoke/MethodHandle" ∧ yL_holds.cls ≠ "java/lang/invoke/VarHandle" ∧ (parseMethodDescriptor yL_holds.desc).map (fun d => d.parameters.length) = some 3 := ⟨by decide +kernel, by decide +kernel, by decide +kernel⟩
theorem yk_X12_holds : yX12_holds.cls = RX12 ∧ yX12_holds.cls ≠ "java/lang/invoke/MethodHandle" ∧ yX12_holds.cls ≠ "java/lang/invoke/VarHandle" ∧ (parseMethodDescriptor yX12_holds.desc).map (fun d => d.parameters.length) = some 1 := ⟨rfl, by decide +kernel, by decide +kernel, by decide +kernel⟩
theorem ykh_L_ring : yL_ring.cls ≠ "java/lang/invoke/MethodHandle" ∧ yL_ring.cls ≠ "java/lang/invoke/VarHandle" ∧ (parseMethodDescriptor yL_ring.desc).map (fun d => d.parameters.length) = some 3 := ⟨by decide +kernel, by decide +kernel, by decide +kernel⟩
theorem yk_X12_ring : yX12_ring.cls = RX12 ∧ yX12_ring.cls ≠ "java/lang/invoke/MethodHandle" ∧ yX12_ring.cls ≠ "java/lang/invoke/VarHandle" ∧ (parseMethodDescriptor yX12_ring.desc).map (fun d => d.parameters.length) = some 1 := ⟨rfl, by decide +kernel, by decide +kernel, by decide +kernel⟩
theorem yk_X11_rings : yX11_rings.cls = RX11 ∧ yX11_rings.cls ≠ "java/lang/invoke/MethodHandle" ∧ yX11_rings.cls ≠ "java/lang/invoke/VarHandle" ∧ (parseMethodDescriptor yX11_rings.desc).map (fun d => d.parameters.length) = some 0 := ⟨rfl, by decide +kernel, by decide +kernel, by decide +kernel⟩
theorem yk_X12_rings : yX12_rings.cls = RX12 ∧ yX12_rings.cls ≠ "java/lang/invoke/MethodHandle" ∧ yX12_rings.cls ≠ "java/lang/invoke/VarHandle" ∧ (parseMethodDescriptor yX12_rings.desc).map (fun d => d.parameters.length) = some 0 := ⟨rfl, by decide +kernel, by decide +kernel, by decide +kernel⟩
theorem ykh_L_leans : yL_leans.cls ≠ "java/lang/invoke/MethodHandle" ∧ yL_leans.cls ≠ "java/lang/invoke/VarHandle" ∧ (parseMethodDescriptor yL_leans.desc).map (fun d => d.parameters.length) = some 3 := ⟨by decide +kernel, by decide +kernel, by decide +kernel⟩
theorem yk_X12_leans : yX12_leans.cls = RX12 ∧ yX12_leans.cls ≠ "java/lang/invoke/MethodHandle" ∧ yX12_leans.cls ≠ "java/lang/invoke/VarHandle" ∧ (parseMethodDescriptor yX12_leans.desc).map (fun d => d.parameters.length) = some 1 := ⟨rfl, by decide +kernel, by decide +kernel, by decide +kernel⟩
theorem ykh_L_gifts : yL_gifts.cls ≠ "java/lang/invoke/MethodHandle" ∧ yL_gifts.cls ≠ "java/lang/invoke/VarHandle" ∧ (parseMethodDescriptor yL_gifts.desc).map (fun d => d.parameters.length) = some 5 := ⟨by decide +kernel, by decide +kernel, by decide +kernel⟩
theorem yk_X12_gifts : yX12_gifts.cls = RX12 ∧ yX12_gifts.cls ≠ "java/lang/invoke/MethodHandle" ∧ yX12_gifts.cls ≠ "java/lang/invoke/VarHandle" ∧ (parseMethodDescriptor yX12_gifts.desc).map (fun d => d.parameters.length) = some 3 := ⟨rfl, by decide +kernel, by decide +kernel, by decide +kernel⟩
theorem ykh_L_rather : yL_rather.cls ≠ "java/lang/invoke/MethodHandle" ∧ yL_rather.cls ≠ "java/lang/invoke/VarHandle" ∧ (parseMethodDescriptor yL_rather.desc).map (fun d => d.parameters.length) = some 3 := ⟨by decide +kernel, by decide +kernel, by decide +kernel⟩
theorem yk_X12_rather : yX12_rather.cls = RX12 ∧ yX12_rather.cls ≠ "java/lang/invoke/MethodHandle" ∧ yX12_rather.cls ≠ "java/lang/invoke/VarHandle" ∧ (parseMethodDescriptor yX12_rather.desc).map (fun d => d.parameters.length) = some 1 := ⟨rfl, by decide +kernel, by decide +kernel, by decide +kernel⟩
theorem yk_X11_lovers : yX11_lovers.cls = RX11 ∧ yX11_lovers.cls ≠ "java/lang/invoke/MethodHandle" ∧ yX11_lovers.cls ≠ "java/lang/invoke/VarHandle" ∧ (parseMethodDescriptor yX11_lovers.desc).map (fun d => d.parameters.length) = some 1 := ⟨rfl, by decide +kernel, by decide +kernel, by decide +kernel⟩
theorem yk_X12_lovers : yX12_lovers.cls = RX12 ∧ yX12_lovers.cls ≠ "java/lang/invoke/MethodHandle" ∧ yX12_lovers.cls ≠ "java/lang/invoke/VarHandle" ∧ (parseMethodDescriptor yX12_lovers.desc).map (fun d => d.parameters.length) = some 1 := ⟨rfl, by decide +kernel, by decide +kernel, by decide +kernel⟩
theorem ykh_L_steady : yL_steady.cls ≠ "java/lang/invoke/MethodHandle" ∧ yL_steady.cls ≠ "java/lang/invoke/VarHandle" ∧ (parseMethodDescriptor yL_steady.desc).map (fun d => d.parameters.length) = some 3 := ⟨by decide +kernel, by decide +kernel, by decide +kernel⟩
theorem yk_X12_steady : yX12_steady.cls = RX12 ∧ yX12_steady.cls ≠ "java/lang/invoke/MethodHandle" ∧ yX12_steady.cls ≠ "java/lang/invoke/VarHandle" ∧ (parseMethodDescriptor yX12_steady.desc).map (fun d => d.parameters.length) = some 1 := ⟨rfl, by decide +kernel, by decide +kernel, by decide +kernel⟩
theorem yk_X11_weddings : yX11_weddings.cls = RX11 ∧ yX11_weddings.cls ≠ "java/lang/invoke/MethodHandle" ∧ yX11_weddings.cls ≠ "java/lang/invoke/VarHandle" ∧ (parseMethodDescriptor yX11_weddings.desc).map (fun d => d.parameters.length) = some 0 := ⟨rfl, by decide +kernel, by decide +kernel, by decide +kernel⟩
theorem yk_X12_weddings : yX12_weddings.cls = RX12 ∧ yX12_weddings.cls ≠ "java/lang/invoke/MethodHandle" ∧ yX12_weddings.cls ≠ "java/lang/invoke/VarHandle" ∧ (parseMethodDescriptor yX12_weddings.desc).map (fun d => d.parameters.length) = some 0 := ⟨rfl, by decide +kernel, by decide +kernel, by decide +kernel⟩
theorem ykh_L_anniversary : yL_anniversary.cls ≠ "java/lang/invoke/MethodHandle" ∧ yL_anniversary.cls ≠ "java/lang/invoke/VarHandle" ∧ (parseMethodDescriptor yL_anniversary.desc).map (fun d => d.parameters.length) = some 3 := ⟨by decide +kernel, by decide +kernel, by decide +kernel⟩
theorem yk_X12_anniversary : yX12_anniversary.cls = RX12 ∧ yX12_anniversary.cls ≠ "java/lang/invoke/MethodHandle" ∧ yX12_anniversary.cls ≠ "java/lang/invoke/VarHandle" ∧ (parseMethodDescriptor yX12_anniversary.desc).map (fun d => d.parameters.length) = some 1 := ⟨rfl, by decide +kernel, by decide +kernel, by decide +kernel⟩
theorem ykh_L_dance : yL_dance.cls ≠ "java/lang/invoke/MethodHandle" ∧ yL_dance.cls ≠ "java/lang/invoke/VarHandle" ∧ (parseMethodDescriptor yL_dance.desc).map (fun d => d.parameters.length) = some 2 := ⟨by decide +kernel, by decide +kernel, by decide +kernel⟩
theorem yk_X12_dance : yX12_dance.cls = RX12 ∧ yX12_dance.cls ≠ "java/lang/invoke/MethodHandle" ∧ yX12_dance.cls ≠ "java/lang/invoke/VarHandle" ∧ (parseMethodDescriptor yX12_dance.desc).map (fun d => d.parameters.length) = some 0 := ⟨rfl, by decide +kernel, by decide +kernel, by decide +kernel⟩
theorem yk_X11_richest : yX11_richest.cls = RX11 ∧ yX11_richest.cls ≠ "java/lang/invoke/MethodHandle" ∧ yX11_richest.cls ≠ "java/lang/invoke/VarHandle" ∧ (parseMethodDescriptor yX11_richest.desc).map (fun d => d.parameters.length) = some 0 := ⟨rfl, by decide +kernel, by decide +kernel, by decide +kernel⟩
theorem yk_X12_richest : yX12_richest.cls = RX12 ∧ yX12_richest.cls ≠ "java/lang/invoke/MethodHandle" ∧ yX12_richest.cls ≠ "java/lang/invoke/VarHandle" ∧ (parseMethodDescriptor yX12_richest.desc).map (fun d => d.parameters.length) = some 0 := ⟨rfl, by decide +kernel, by decide +kernel, by decide +kernel⟩
theorem ykh_L_trial : yL_trial.cls ≠ "java/lang/invoke/MethodHandle" ∧ yL_trial.cls ≠ "java/lang/invoke/VarHandle" ∧ (parseMethodDescriptor yL_trial.desc).map (fun d => d.parameters.length) = some 4 := ⟨by decide +kernel, by decide +kernel, by decide +kernel⟩
theorem yk_X12_trial : yX12_trial.cls = RX12 ∧ yX12_trial.cls ≠ "java/lang/invoke/MethodHandle" ∧ yX12_trial.cls ≠ "java/lang/invoke/VarHandle" ∧ (parseMethodDescriptor yX12_trial.desc).map (fun d => d.parameters.length) = some 2 := ⟨rfl, by decide +kernel, by decide +kernel, by decide +kernel⟩
theorem ykh_L_span : yL_span.cls ≠ "java/lang/invoke/MethodHandle" ∧ yL_span.cls ≠ "java/lang/invoke/VarHandle" ∧ (parseMethodDescriptor yL_span.desc).map (fun d => d.parameters.length) = some 4 := ⟨by decide +kernel, by decide +kernel, by decide +kernel⟩
theorem yk_X12_span : yX12_span.cls = RX12 ∧ yX12_span.cls ≠ "java/lang/invoke/MethodHandle" ∧ yX12_span.cls ≠ "java/lang/invoke/VarHandle" ∧ (parseMethodDescriptor yX12_span.desc).map (fun d => d.parameters.length) = some 2 := ⟨rfl, by decide +kernel, by decide +kernel, by decide +kernel⟩
theorem ykh_L_led : yL_led.cls ≠ "java/lang/invoke/MethodHandle" ∧ yL_led.cls ≠ "java/lang/invoke/VarHandle" ∧ (parseMethodDescriptor yL_led.desc).map (fun d => d.parameters.length) = some 4 := ⟨by decide +kernel, by decide +kernel, by decide +kernel⟩
theorem yk_X12_led : yX12_led.cls = RX12 ∧ yX12_led.cls ≠ "java/lang/invoke/MethodHandle" ∧ yX12_led.cls ≠ "java/lang/invoke/VarHandle" ∧ (parseMethodDescriptor yX12_led.desc).map (fun d => d.parameters.length) = some 2 := ⟨rfl, by decide +kernel, by decide +kernel, by decide +kernel⟩
theorem ykh_L_log : yL_log.cls ≠ "java/lang/invoke/MethodHandle" ∧ yL_log.cls ≠ "java/lang/invoke/VarHandle" ∧ (parseMethodDescriptor yL_log.desc).map (fun d => d.parameters.length) = some 4 := ⟨by decide +kernel, by decide +kernel, by decide +kernel⟩
theorem yk_X12_log : yX12_log.cls = RX12 ∧ yX12_log.cls ≠ "java/lang/invoke/MethodHandle" ∧ yX12_log.cls ≠ "java/lang/invoke/VarHandle" ∧ (parseMethodDescriptor yX12_log.desc).map (fun d => d.parameters.length) = some 2 := ⟨rfl, by decide +kernel, by decide +kernel, by decide +kernel⟩
theorem yk_X11_seed : yX11_seed.cls = RX11 ∧ yX11_seed.cls ≠ "java/lang/invoke/MethodHandle" ∧ yX11_seed.cls ≠ "java/lang/invoke/VarHandle" ∧ (parseMethodDescriptor yX11_seed.desc).map (fun d => d.parameters.length) = some 1 := ⟨rfl, by decide +kernel, by decide +kernel, by decide +kernel⟩
theorem yk_X12_seed : yX12_seed.cls = RX12 ∧ yX12_seed.cls ≠ "java/lang/invoke/MethodHandle" ∧ yX12_seed.cls ≠ "java/lang/invoke/VarHandle" ∧ (parseMethodDescriptor yX12_seed.desc).map (fun d => d.parameters.length) = some 1 := ⟨rfl, by decide +kernel, by decide +kernel, by decide +kernel⟩
theorem yk_X11_undo : yX11_undo.cls = RX11 ∧ yX11_undo.cls ≠ "java/lang/invoke/MethodHandle" ∧ yX11_undo.cls ≠ "java/lang/invoke/VarHandle" ∧ (parseMethodDescriptor yX11_undo.desc).map (fun d => d.parameters.length) = some 0 := ⟨rfl, by decide +kernel, by decide +kernel, by decide +kernel⟩
theorem yk_X12_undo : yX12_undo.cls = RX12 ∧ yX12_undo.cls ≠ "java/lang/invoke/MethodHandle" ∧ yX12_undo.cls ≠ "java/lang/invoke/VarHandle" ∧ (parseMethodDescriptor yX12_undo.desc).map (fun d => d.parameters.length) = some 0 := ⟨rfl, by decide +kernel, by decide +kernel, by decide +kernel⟩
theorem yk_X11_image : yX11_image.cls = RX11 ∧ yX11_image.cls ≠ "java/lang/invoke/MethodHandle" ∧ yX11_image.cls ≠ "java/lang/invoke/VarHandle" ∧ (parseMethodDescriptor yX11_image.desc).map (fun d => d.parameters.length) = some 0 := ⟨rfl, by decide +kernel, by decide +kernel, by decide +kernel⟩
theorem yk_X12_image : yX12_image.cls = RX12 ∧ yX12_image.cls ≠ "java/lang/invoke/MethodHandle" ∧ yX12_image.cls ≠ "java/lang/invoke/VarHandle" ∧ (parseMethodDescriptor yX12_image.desc).map (fun d => d.parameters.length) = some 0 := ⟨rfl, by decide +kernel, by decide +kernel, by decide +kernel⟩
theorem yk_X11_back : yX11_back.cls = RX11 ∧ yX11_back.cls ≠ "java/lang/invoke/MethodHandle" ∧ yX11_back.cls ≠ "java/lang/invoke/VarHandle" ∧ (parseMethodDescriptor yX11_back.desc).map (fun d => d.parameters.length) = some 0 := ⟨rfl, by decide +kernel, by decide +kernel, by decide +kernel⟩
theorem yk_X12_back : yX12_back.cls = RX12 ∧ yX12_back.cls ≠ "java/lang/invoke/MethodHandle" ∧ yX12_back.cls ≠ "java/lang/invoke/VarHandle" ∧ (parseMethodDescriptor yX12_back.desc).map (fun d => d.parameters.length) = some 0 := ⟨rfl, by decide +kernel, by decide +kernel, by decide +kernel⟩
theorem yk_X11_count : yX11_count.cls = RX11 ∧ yX11_count.cls ≠ "java/lang/invoke/MethodHandle" ∧ yX11_count.cls ≠ "java/lang/invoke/VarHandle" ∧ (parseMethodDescriptor yX11_count.desc).map (fun d => d.parameters.length) = some 1 := ⟨rfl, by decide +kernel, by decide +kernel, by decide +kernel⟩
theorem yk_X12_count : yX12_count.cls = RX12 ∧ yX12_count.cls ≠ "java/lang/invoke/MethodHandle" ∧ yX12_count.cls ≠ "java/lang/invoke/VarHandle" ∧ (parseMethodDescriptor yX12_count.desc).map (fun d => d.parameters.length) = some 1 := ⟨rfl, by decide +kernel, by decide +kernel, by decide +kernel⟩
