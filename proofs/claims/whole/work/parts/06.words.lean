theorem uin_X0 : ∀ w ∈ u_ws RX0 TX0 4, w ∈ lwG := by
  refine all_in ?_
  intro k hk
  have hk9 : k < 4 := hk
  match k, hk9 with
  | 0, _ => exact ⟨_, rfl, lwT_in (i := 338) (by decide +kernel) (by decide +kernel)⟩
  | 1, _ => exact ⟨_, rfl, lwT_in (i := 340) (by decide +kernel) (by decide +kernel)⟩
  | 2, _ => exact ⟨_, rfl, lwT_in (i := 342) (by decide +kernel) (by decide +kernel)⟩
  | 3, _ => exact ⟨_, rfl, lwT_in (i := 344) (by decide +kernel) (by decide +kernel)⟩
  | k9 + 4, h9 => exact absurd h9 (by omega)

theorem uin_X2 : ∀ w ∈ u_ws RX2 TX2 6, w ∈ lwG := by
  refine all_in ?_
  intro k hk
  have hk9 : k < 6 := hk
  match k, hk9 with
  | 0, _ => exact ⟨_, rfl, lwT_in (i := 164) (by decide +kernel) (by decide +kernel)⟩
  | 1, _ => exact ⟨_, rfl, lwT_in (i := 166) (by decide +kernel) (by decide +kernel)⟩
  | 2, _ => exact ⟨_, rfl, lwT_in (i := 168) (by decide +kernel) (by decide +kernel)⟩
  | 3, _ => exact ⟨_, rfl, lwT_in (i := 170) (by decide +kernel) (by decide +kernel)⟩
  | 4, _ => exact ⟨_, rfl, lwT_in (i := 172) (by decide +kernel) (by decide +kernel)⟩
  | 5, _ => exact ⟨_, rfl, lwT_in (i := 174) (by decide +kernel) (by decide +kernel)⟩
  | k9 + 6, h9 => exact absurd h9 (by omega)

theorem uin_X3 : ∀ w ∈ u_ws RX3 TX3 14, w ∈ lwG := by
  refine all_in ?_
  intro k hk
  have hk9 : k < 14 := hk
  match k, hk9 with
  | 0, _ => exact ⟨_, rfl, lwT_in (i := 269) (by decide +kernel) (by decide +kernel)⟩
  | 1, _ => exact ⟨_, rfl, lwT_in (i := 270) (by decide +kernel) (by decide +kernel)⟩
  | 2, _ => exact ⟨_, rfl, lwT_in (i := 271) (by decide +kernel) (by decide +kernel)⟩
  | 3, _ => exact ⟨_, rfl, lwT_in (i := 272) (by decide +kernel) (by decide +kernel)⟩
  | 4, _ => exact ⟨_, rfl, lwT_in (i := 273) (by decide +kernel) (by decide +kernel)⟩
  | 5, _ => exact ⟨_, rfl, lwT_in (i := 274) (by decide +kernel) (by decide +kernel)⟩
  | 6, _ => exact ⟨_, rfl, lwT_in (i := 275) (by decide +kernel) (by decide +kernel)⟩
  | 7, _ => exact ⟨_, rfl, lwT_in (i := 276) (by decide +kernel) (by decide +kernel)⟩
  | 8, _ => exact ⟨_, rfl, lwT_in (i := 277) (by decide +kernel) (by decide +kernel)⟩
  | 9, _ => exact ⟨_, rfl, lwT_in (i := 278) (by decide +kernel) (by decide +kernel)⟩
  | 10, _ => exact ⟨_, rfl, lwT_in (i := 279) (by decide +kernel) (by decide +kernel)⟩
  | 11, _ => exact ⟨_, rfl, lwT_in (i := 280) (by decide +kernel) (by decide +kernel)⟩
  | 12, _ => exact ⟨_, rfl, lwT_in (i := 281) (by decide +kernel) (by decide +kernel)⟩
  | 13, _ => exact ⟨_, rfl, lwT_in (i := 267) (by decide +kernel) (by decide +kernel)⟩
  | k9 + 14, h9 => exact absurd h9 (by omega)

theorem uin_X4 : ∀ w ∈ u_ws RX4 TX4 7, w ∈ lwG := by
  refine all_in ?_
  intro k hk
  have hk9 : k < 7 := hk
  match k, hk9 with
  | 0, _ => exact ⟨_, rfl, lwT_in (i := 307) (by decide +kernel) (by decide +kernel)⟩
  | 1, _ => exact ⟨_, rfl, lwT_in (i := 309) (by decide +kernel) (by decide +kernel)⟩
  | 2, _ => exact ⟨_, rfl, lwT_in (i := 311) (by decide +kernel) (by decide +kernel)⟩
  | 3, _ => exact ⟨_, rfl, lwT_in (i := 313) (by decide +kernel) (by decide +kernel)⟩
  | 4, _ => exact ⟨_, rfl, lwT_in (i := 315) (by decide +kernel) (by decide +kernel)⟩
  | 5, _ => exact ⟨_, rfl, lwT_in (i := 317) (by decide +kernel) (by decide +kernel)⟩
  | 6, _ => exact ⟨_, rfl, lwT_in (i := 319) (by decide +kernel) (by decide +kernel)⟩
  | k9 + 7, h9 => exact absurd h9 (by omega)

theorem uin_X5 : ∀ w ∈ u_ws RX5 TX5 3, w ∈ lwG := by
  refine all_in ?_
  intro k hk
  have hk9 : k < 3 := hk
  match k, hk9 with
  | 0, _ => exact ⟨_, rfl, lwT_in (i := 358) (by decide +kernel) (by decide +kernel)⟩
  | 1, _ => exact ⟨_, rfl, lwT_in (i := 360) (by decide +kernel) (by decide +kernel)⟩
  | 2, _ => exact ⟨_, rfl, lwT_in (i := 362) (by decide +kernel) (by decide +kernel)⟩
  | k9 + 3, h9 => exact absurd h9 (by omega)

theorem uin_X6 : ∀ w ∈ u_ws RX6 TX6 1, w ∈ lwG := by
  refine all_in ?_
  intro k hk
  have hk9 : k < 1 := hk
  match k, hk9 with
  | 0, _ => exact ⟨_, rfl, lwT_in (i := 45) (by decide +kernel) (by decide +kernel)⟩
  | k9 + 1, h9 => exact absurd h9 (by omega)

theorem uin_X8 : ∀ w ∈ u_ws RX8 TX8 5, w ∈ lwG := by
  refine all_in ?_
  intro k hk
  have hk9 : k < 5 := hk
  match k, hk9 with
  | 0, _ => exact ⟨_, rfl, lwT_in (i := 378) (by decide +kernel) (by decide +kernel)⟩
  | 1, _ => exact ⟨_, rfl, lwT_in (i := 380) (by decide +kernel) (by decide +kernel)⟩
  | 2, _ => exact ⟨_, rfl, lwT_in (i := 382) (by decide +kernel) (by decide +kernel)⟩
  | 3, _ => exact ⟨_, rfl, lwT_in (i := 384) (by decide +kernel) (by decide +kernel)⟩
  | 4, _ => exact ⟨_, rfl, lwT_in (i := 386) (by decide +kernel) (by decide +kernel)⟩
  | k9 + 5, h9 => exact absurd h9 (by omega)

theorem uin_X9 : ∀ w ∈ u_ws RX9 TX9 20, w ∈ lwG := by
  refine all_in ?_
  intro k hk
  have hk9 : k < 20 := hk
  match k, hk9 with
  | 0, _ => exact ⟨_, rfl, lwT_in (i := 108) (by decide +kernel) (by decide +kernel)⟩
  | 1, _ => exact ⟨_, rfl, lwT_in (i := 110) (by decide +kernel) (by decide +kernel)⟩
  | 2, _ => exact ⟨_, rfl, lwT_in (i := 112) (by decide +kernel) (by decide +kernel)⟩
  | 3, _ => exact ⟨_, rfl, lwT_in (i := 114) (by decide +kernel) (by decide +kernel)⟩
  | 4, _ => exact ⟨_, rfl, lwT_in (i := 116) (by decide +kernel) (by decide +kernel)⟩
  | 5, _ => exact ⟨_, rfl, lwT_in (i := 118) (by decide +kernel) (by decide +kernel)⟩
  | 6, _ => exact ⟨_, rfl, lwT_in (i := 120) (by decide +kernel) (by decide +kernel)⟩
  | 7, _ => exact ⟨_, rfl, lwT_in (i := 122) (by decide +kernel) (by decide +kernel)⟩
  | 8, _ => exact ⟨_, rfl, lwT_in (i := 124) (by decide +kernel) (by decide +kernel)⟩
  | 9, _ => exact ⟨_, rfl, lwT_in (i := 126) (by decide +kernel) (by decide +kernel)⟩
  | 10, _ => exact ⟨_, rfl, lwT_in (i := 128) (by decide +kernel) (by decide +kernel)⟩
  | 11, _ => exact ⟨_, rfl, lwT_in (i := 130) (by decide +kernel) (by decide +kernel)⟩
  | 12, _ => exact ⟨_, rfl, lwT_in (i := 132) (by decide +kernel) (by decide +kernel)⟩
  | 13, _ => exact ⟨_, rfl, lwT_in (i := 134) (by decide +kernel) (by decide +kernel)⟩
  | 14, _ => exact ⟨_, rfl, lwT_in (i := 136) (by decide +kernel) (by decide +kernel)⟩
  | 15, _ => exact ⟨_, rfl, lwT_in (i := 138) (by decide +kernel) (by decide +kernel)⟩
  | 16, _ => exact ⟨_, rfl, lwT_in (i := 140) (by decide +kernel) (by decide +kernel)⟩
  | 17, _ => exact ⟨_, rfl, lwT_in (i := 142) (by decide +kernel) (by decide +kernel)⟩
  | 18, _ => exact ⟨_, rfl, lwT_in (i := 144) (by decide +kernel) (by decide +kernel)⟩
  | 19, _ => exact ⟨_, rfl, lwT_in (i := 146) (by decide +kernel) (by decide +kernel)⟩
  | k9 + 20, h9 => exact absurd h9 (by omega)

theorem uin_X10 : ∀ w ∈ u_ws RX10 TX10 14, w ∈ lwG := by
  refine all_in ?_
  intro k hk
  have hk9 : k < 14 := hk
  match k, hk9 with
  | 0, _ => exact ⟨_, rfl, lwT_in (i := 230) (by decide +kernel) (by decide +kernel)⟩
  | 1, _ => exact ⟨_, rfl, lwT_in (i := 232) (by decide +kernel) (by decide +kernel)⟩
  | 2, _ => exact ⟨_, rfl, lwT_in (i := 234) (by decide +kernel) (by decide +kernel)⟩
  | 3, _ => exact ⟨_, rfl, lwT_in (i := 236) (by decide +kernel) (by decide +kernel)⟩
  | 4, _ => exact ⟨_, rfl, lwT_in (i := 238) (by decide +kernel) (by decide +kernel)⟩
  | 5, _ => exact ⟨_, rfl, lwT_in (i := 240) (by decide +kernel) (by decide +kernel)⟩
  | 6, _ => exact ⟨_, rfl, lwT_in (i := 242) (by decide +kernel) (by decide +kernel)⟩
  | 7, _ => exact ⟨_, rfl, lwT_in (i := 244) (by decide +kernel) (by decide +kernel)⟩
  | 8, _ => exact ⟨_, rfl, lwT_in (i := 246) (by decide +kernel) (by decide +kernel)⟩
  | 9, _ => exact ⟨_, rfl, lwT_in (i := 248) (by decide +kernel) (by decide +kernel)⟩
  | 10, _ => exact ⟨_, rfl, lwT_in (i := 250) (by decide +kernel) (by decide +kernel)⟩
  | 11, _ => exact ⟨_, rfl, lwT_in (i := 252) (by decide +kernel) (by decide +kernel)⟩
  | 12, _ => exact ⟨_, rfl, lwT_in (i := 254) (by decide +kernel) (by decide +kernel)⟩
  | 13, _ => exact ⟨_, rfl, lwT_in (i := 228) (by decide +kernel) (by decide +kernel)⟩
  | k9 + 14, h9 => exact absurd h9 (by omega)

theorem uin_X11 : ∀ w ∈ u_ws RX11 TX11 17, w ∈ lwG := by
  refine all_in ?_
  intro k hk
  have hk9 : k < 17 := hk
  match k, hk9 with
  | 0, _ => exact ⟨_, rfl, lwT_in (i := 406) (by decide +kernel) (by decide +kernel)⟩
  | 1, _ => exact ⟨_, rfl, lwT_in (i := 408) (by decide +kernel) (by decide +kernel)⟩
  | 2, _ => exact ⟨_, rfl, lwT_in (i := 410) (by decide +kernel) (by decide +kernel)⟩
  | 3, _ => exact ⟨_, rfl, lwT_in (i := 412) (by decide +kernel) (by decide +kernel)⟩
  | 4, _ => exact ⟨_, rfl, lwT_in (i := 414) (by decide +kernel) (by decide +kernel)⟩
  | 5, _ => exact ⟨_, rfl, lwT_in (i := 416) (by decide +kernel) (by decide +kernel)⟩
  | 6, _ => exact ⟨_, rfl, lwT_in (i := 418) (by decide +kernel) (by decide +kernel)⟩
  | 7, _ => exact ⟨_, rfl, lwT_in (i := 420) (by decide +kernel) (by decide +kernel)⟩
  | 8, _ => exact ⟨_, rfl, lwT_in (i := 422) (by decide +kernel) (by decide +kernel)⟩
  | 9, _ => exact ⟨_, rfl, lwT_in (i := 424) (by decide +kernel) (by decide +kernel)⟩
  | 10, _ => exact ⟨_, rfl, lwT_in (i := 426) (by decide +kernel) (by decide +kernel)⟩
  | 11, _ => exact ⟨_, rfl, lwT_in (i := 428) (by decide +kernel) (by decide +kernel)⟩
  | 12, _ => exact ⟨_, rfl, lwT_in (i := 430) (by decide +kernel) (by decide +kernel)⟩
  | 13, _ => exact ⟨_, rfl, lwT_in (i := 432) (by decide +kernel) (by decide +kernel)⟩
  | 14, _ => exact ⟨_, rfl, lwT_in (i := 434) (by decide +kernel) (by decide +kernel)⟩
  | 15, _ => exact ⟨_, rfl, lwT_in (i := 436) (by decide +kernel) (by decide +kernel)⟩
  | 16, _ => exact ⟨_, rfl, lwT_in (i := 438) (by decide +kernel) (by decide +kernel)⟩
  | k9 + 17, h9 => exact absurd h9 (by omega)

theorem uin_X12 : ∀ w ∈ u_ws RX12 TX12 24, w ∈ lwG := by
  refine all_in ?_
  intro k hk
  have hk9 : k < 24 := hk
  match k, hk9 with
  | 0, _ => exact ⟨_, rfl, lwT_in (i := 1646) (by decide +kernel) (by decide +kernel)⟩
  | 1, _ => exact ⟨_, rfl, lwT_in (i := 1648) (by decide +kernel) (by decide +kernel)⟩
  | 2, _ => exact ⟨_, rfl, lwT_in (i := 1650) (by decide +kernel) (by decide +kernel)⟩
  | 3, _ => exact ⟨_, rfl, lwT_in (i := 1652) (by decide +kernel) (by decide +kernel)⟩
  | 4, _ => exact ⟨_, rfl, lwT_in (i := 1654) (by decide +kernel) (by decide +kernel)⟩
  | 5, _ => exact ⟨_, rfl, lwT_in (i := 1656) (by decide +kernel) (by decide +kernel)⟩
  | 6, _ => exact ⟨_, rfl, lwT_in (i := 1658) (by decide +kernel) (by decide +kernel)⟩
  | 7, _ => exact ⟨_, rfl, lwT_in (i := 1660) (by decide +kernel) (by decide +kernel)⟩
  | 8, _ => exact ⟨_, rfl, lwT_in (i := 1662) (by decide +kernel) (by decide +kernel)⟩
  | 9, _ => exact ⟨_, rfl, lwT_in (i := 1664) (by decide +kernel) (by decide +kernel)⟩
  | 10, _ => exact ⟨_, rfl, lwT_in (i := 1666) (by decide +kernel) (by decide +kernel)⟩
  | 11, _ => exact ⟨_, rfl, lwT_in (i := 1668) (by decide +kernel) (by decide +kernel)⟩
  | 12, _ => exact ⟨_, rfl, lwT_in (i := 1670) (by decide +kernel) (by decide +kernel)⟩
  | 13, _ => exact ⟨_, rfl, lwT_in (i := 1672) (by decide +kernel) (by decide +kernel)⟩
  | 14, _ => exact ⟨_, rfl, lwT_in (i := 1674) (by decide +kernel) (by decide +kernel)⟩
  | 15, _ => exact ⟨_, rfl, lwT_in (i := 1676) (by decide +kernel) (by decide +kernel)⟩
  | 16, _ => exact ⟨_, rfl, lwT_in (i := 1678) (by decide +kernel) (by decide +kernel)⟩
  | 17, _ => exact ⟨_, rfl, lwT_in (i := 1680) (by decide +kernel) (by decide +kernel)⟩
  | 18, _ => exact ⟨_, rfl, lwT_in (i := 1682) (by decide +kernel) (by decide +kernel)⟩
  | 19, _ => exact ⟨_, rfl, lwT_in (i := 1684) (by decide +kernel) (by decide +kernel)⟩
  | 20, _ => exact ⟨_, rfl, lwT_in (i := 1686) (by decide +kernel) (by decide +kernel)⟩
  | 21, _ => exact ⟨_, rfl, lwT_in (i := 1688) (by decide +kernel) (by decide +kernel)⟩
  | 22, _ => exact ⟨_, rfl, lwT_in (i := 1690) (by decide +kernel) (by decide +kernel)⟩
  | 23, _ => exact ⟨_, rfl, lwT_in (i := 1692) (by decide +kernel) (by decide +kernel)⟩
  | k9 + 24, h9 => exact absurd h9 (by omega)

theorem wAi : Cond.initialized "java/lang/System" ∈ lwG := lwT_in (i := 16) (by decide +kernel) (by decide +kernel)
theorem wAl_X6_19 : Cond.methodLink RX6 19 arraycopyName ∈ lwG := lwT_in (i := 484) (by decide +kernel) (by decide +kernel)
theorem wAn : Cond.native arraycopyName ∈ lwG := lwT_in (i := 486) (by decide +kernel) (by decide +kernel)
theorem wAs : Cond.static arraycopyName ∈ lwG := lwT_in (i := 485) (by decide +kernel) (by decide +kernel)
theorem wMc_max : Cond.code Lib.Math.max.name Lib.Math.max.code 2 (some .int) ∈ lwG := lwT_in (i := 620) (by decide +kernel) (by decide +kernel)
theorem wMc_min : Cond.code Lib.Math.min.name Lib.Math.min.code 2 (some .int) ∈ lwG := lwT_in (i := 483) (by decide +kernel) (by decide +kernel)
theorem wMi : Cond.initialized "java/lang/Math" ∈ lwG := lwT_in (i := 15) (by decide +kernel) (by decide +kernel)
theorem wMl_X11_360 : Cond.methodLink RX11 360 Lib.Math.max.name ∈ lwG := lwT_in (i := 1244) (by decide +kernel) (by decide +kernel)
theorem wMl_X11_365 : Cond.methodLink RX11 365 Lib.Math.min.name ∈ lwG := lwT_in (i := 1243) (by decide +kernel) (by decide +kernel)
theorem wMl_X6_13 : Cond.methodLink RX6 13 Lib.Math.min.name ∈ lwG := lwT_in (i := 481) (by decide +kernel) (by decide +kernel)
theorem wMl_X9_172 : Cond.methodLink RX9 172 Lib.Math.min.name ∈ lwG := lwT_in (i := 545) (by decide +kernel) (by decide +kernel)
theorem wMs_max : Cond.static Lib.Math.max.name ∈ lwG := lwT_in (i := 619) (by decide +kernel) (by decide +kernel)
theorem wMs_min : Cond.static Lib.Math.min.name ∈ lwG := lwT_in (i := 482) (by decide +kernel) (by decide +kernel)
theorem wc_J6_bitCount_0f7a4 : Cond.code yJ6_bitCount_0f7a4 cJ6_bitCount_0f7a4 1 (some .int) ∈ lwG := lwT_in (i := 525) (by decide +kernel) (by decide +kernel)
theorem wc_X11_contains : Cond.code yX11_contains cX11_contains 2 (some .boolean) ∈ lwG := lwT_in (i := 522) (by decide +kernel) (by decide +kernel)
theorem wc_X11_happyWithin : Cond.code yX11_happyWithin cX11_happyWithin 1 (some .int) ∈ lwG := lwT_in (i := 1242) (by decide +kernel) (by decide +kernel)
theorem wc_X6_at : Cond.code yX6_at cX6_at 2 (some .int) ∈ lwG := lwT_in (i := 511) (by decide +kernel) (by decide +kernel)
theorem wc_X6_copyAll : Cond.code yX6_copyAll cX6_copyAll 2 none ∈ lwG := lwT_in (i := 480) (by decide +kernel) (by decide +kernel)
theorem wc_X6_put : Cond.code yX6_put cX6_put 3 none ∈ lwG := lwT_in (i := 452) (by decide +kernel) (by decide +kernel)
theorem wc_X9_comesTo : Cond.code yX9_comesTo cX9_comesTo 5 (some .boolean) ∈ lwG := lwT_in (i := 1440) (by decide +kernel) (by decide +kernel)
theorem wc_X9_copyPurses : Cond.code yX9_copyPurses cX9_copyPurses 2 none ∈ lwG := lwT_in (i := 476) (by decide +kernel) (by decide +kernel)
theorem wc_X9_firstOf : Cond.code yX9_firstOf cX9_firstOf 2 (some .int) ∈ lwG := lwT_in (i := 507) (by decide +kernel) (by decide +kernel)
theorem wc_X9_give : Cond.code yX9_give cX9_give 3 none ∈ lwG := lwT_in (i := 550) (by decide +kernel) (by decide +kernel)
theorem wc_X9_insurersOf : Cond.code yX9_insurersOf cX9_insurersOf 2 (some .int) ∈ lwG := lwT_in (i := 502) (by decide +kernel) (by decide +kernel)
theorem wc_X9_insurersOfPair : Cond.code yX9_insurersOfPair cX9_insurersOfPair 6 (some .int) ∈ lwG := lwT_in (i := 519) (by decide +kernel) (by decide +kernel)
theorem wc_X9_isLeastOfRing : Cond.code yX9_isLeastOfRing cX9_isLeastOfRing 4 (some .boolean) ∈ lwG := lwT_in (i := 566) (by decide +kernel) (by decide +kernel)
theorem wc_X9_isOver : Cond.code yX9_isOver cX9_isOver 2 (some .boolean) ∈ lwG := lwT_in (i := 494) (by decide +kernel) (by decide +kernel)
theorem wc_X9_isRuined : Cond.code yX9_isRuined cX9_isRuined 2 (some .boolean) ∈ lwG := lwT_in (i := 536) (by decide +kernel) (by decide +kernel)
theorem wc_X9_isWed : Cond.code yX9_isWed cX9_isWed 2 (some .boolean) ∈ lwG := lwT_in (i := 608) (by decide +kernel) (by decide +kernel)
theorem wc_X9_likingOf : Cond.code yX9_likingOf cX9_likingOf 3 (some .int) ∈ lwG := lwT_in (i := 591) (by decide +kernel) (by decide +kernel)
theorem wc_X9_logRows : Cond.code yX9_logRows cX9_logRows 1 (some .int) ∈ lwG := lwT_in (i := 677) (by decide +kernel) (by decide +kernel)
theorem wc_X9_logged : Cond.code yX9_logged cX9_logged 3 (some .int) ∈ lwG := lwT_in (i := 1602) (by decide +kernel) (by decide +kernel)
theorem wc_X9_payOut : Cond.code yX9_payOut cX9_payOut 3 (some .int) ∈ lwG := lwT_in (i := 532) (by decide +kernel) (by decide +kernel)
theorem wc_X9_ringSteps : Cond.code yX9_ringSteps cX9_ringSteps 4 (some .int) ∈ lwG := lwT_in (i := 562) (by decide +kernel) (by decide +kernel)
theorem wc_X9_ruinIfShort : Cond.code yX9_ruinIfShort cX9_ruinIfShort 3 none ∈ lwG := lwT_in (i := 540) (by decide +kernel) (by decide +kernel)
theorem wc_X9_secondOf : Cond.code yX9_secondOf cX9_secondOf 2 (some .int) ∈ lwG := lwT_in (i := 515) (by decide +kernel) (by decide +kernel)
theorem wc_X9_spouseOf : Cond.code yX9_spouseOf cX9_spouseOf 3 (some .int) ∈ lwG := lwT_in (i := 587) (by decide +kernel) (by decide +kernel)
theorem wc_X9_take : Cond.code yX9_take cX9_take 4 (some .int) ∈ lwG := lwT_in (i := 544) (by decide +kernel) (by decide +kernel)
theorem wc_X9_wealthOfAll : Cond.code yX9_wealthOfAll cX9_wealthOfAll 3 (some .int) ∈ lwG := lwT_in (i := 668) (by decide +kernel) (by decide +kernel)
theorem wf_X6_7 : Cond.fieldLink RX6 7 RX6 "cells" "[I" ∈ lwG := lwT_in (i := 44) (by decide +kernel) (by decide +kernel)
theorem wf_X9_14 : Cond.fieldLink RX9 14 RX9 "wealth" "LRivalWeds$Row;" ∈ lwG := lwT_in (i := 57) (by decide +kernel) (by decide +kernel)
theorem wf_X9_142 : Cond.fieldLink RX9 142 RX4 "happy" "I" ∈ lwG := lwT_in (i := 291) (by decide +kernel) (by decide +kernel)
theorem wf_X9_146 : Cond.fieldLink RX9 146 RX4 "months" "I" ∈ lwG := lwT_in (i := 293) (by decide +kernel) (by decide +kernel)
theorem wf_X9_149 : Cond.fieldLink RX9 149 RX4 "quarrel" "I" ∈ lwG := lwT_in (i := 297) (by decide +kernel) (by decide +kernel)
theorem wf_X9_153 : Cond.fieldLink RX9 153 RX4 "insurers" "I" ∈ lwG := lwT_in (i := 299) (by decide +kernel) (by decide +kernel)
theorem wf_X9_159 : Cond.fieldLink RX9 159 RX4 "liking" "I" ∈ lwG := lwT_in (i := 302) (by decide +kernel) (by decide +kernel)
theorem wf_X9_162 : Cond.fieldLink RX9 162 RX4 "month" "I" ∈ lwG := lwT_in (i := 304) (by decide +kernel) (by decide +kernel)
theorem wf_X9_163 : Cond.fieldLink RX9 163 RX4 "rich" "Z" ∈ lwG := lwT_in (i := 306) (by decide +kernel) (by decide +kernel)
theorem wf_X9_20 : Cond.fieldLink RX9 20 RX9 "asked" "LRivalWeds$Row;" ∈ lwG := lwT_in (i := 60) (by decide +kernel) (by decide +kernel)
theorem wf_X9_23 : Cond.fieldLink RX9 23 RX9 "reinsurer" "LRivalWeds$Row;" ∈ lwG := lwT_in (i := 63) (by decide +kernel) (by decide +kernel)
theorem wf_X9_26 : Cond.fieldLink RX9 26 RX9 "likings" "LRivalWeds$Row;" ∈ lwG := lwT_in (i := 66) (by decide +kernel) (by decide +kernel)
theorem wf_X9_29 : Cond.fieldLink RX9 29 RX9 "both" "LRivalWeds$Row;" ∈ lwG := lwT_in (i := 67) (by decide +kernel) (by decide +kernel)
theorem wf_X9_32 : Cond.fieldLink RX9 32 RX9 "happy" "LRivalWeds$Row;" ∈ lwG := lwT_in (i := 68) (by decide +kernel) (by decide +kernel)
theorem wf_X9_35 : Cond.fieldLink RX9 35 RX9 "monthsWed" "LRivalWeds$Row;" ∈ lwG := lwT_in (i := 70) (by decide +kernel) (by decide +kernel)
theorem wf_X9_38 : Cond.fieldLink RX9 38 RX9 "logCells" "LRivalWeds$Row;" ∈ lwG := lwT_in (i := 72) (by decide +kernel) (by decide +kernel)
theorem wf_X9_41 : Cond.fieldLink RX9 41 RX9 "bar" "I" ∈ lwG := lwT_in (i := 85) (by decide +kernel) (by decide +kernel)
theorem wf_X9_45 : Cond.fieldLink RX9 45 RX9 "premium" "I" ∈ lwG := lwT_in (i := 89) (by decide +kernel) (by decide +kernel)
theorem wf_X9_48 : Cond.fieldLink RX9 48 RX9 "pays" "I" ∈ lwG := lwT_in (i := 92) (by decide +kernel) (by decide +kernel)
theorem wf_X9_51 : Cond.fieldLink RX9 51 RX9 "seed" "I" ∈ lwG := lwT_in (i := 100) (by decide +kernel) (by decide +kernel)
theorem wf_X9_62 : Cond.fieldLink RX9 62 RX9 "people" "I" ∈ lwG := lwT_in (i := 74) (by decide +kernel) (by decide +kernel)
theorem wf_X9_65 : Cond.fieldLink RX9 65 RX9 "matches" "I" ∈ lwG := lwT_in (i := 80) (by decide +kernel) (by decide +kernel)
theorem wf_X9_68 : Cond.fieldLink RX9 68 RX9 "over" "I" ∈ lwG := lwT_in (i := 84) (by decide +kernel) (by decide +kernel)
theorem wf_X9_71 : Cond.fieldLink RX9 71 RX9 "month" "I" ∈ lwG := lwT_in (i := 95) (by decide +kernel) (by decide +kernel)
theorem wf_X9_74 : Cond.fieldLink RX9 74 RX9 "quarrel" "I" ∈ lwG := lwT_in (i := 98) (by decide +kernel) (by decide +kernel)
theorem wf_X9_77 : Cond.fieldLink RX9 77 RX9 "texts" "I" ∈ lwG := lwT_in (i := 103) (by decide +kernel) (by decide +kernel)
theorem wf_X9_80 : Cond.fieldLink RX9 80 RX9 "claims" "I" ∈ lwG := lwT_in (i := 105) (by decide +kernel) (by decide +kernel)
theorem wf_X9_83 : Cond.fieldLink RX9 83 RX9 "ruined" "I" ∈ lwG := lwT_in (i := 77) (by decide +kernel) (by decide +kernel)
theorem wi_X6_at : Cond.instanceMethod yX6_at ∈ lwG := lwT_in (i := 509) (by decide +kernel) (by decide +kernel)
theorem wi_X6_copyAll : Cond.instanceMethod yX6_copyAll ∈ lwG := lwT_in (i := 478) (by decide +kernel) (by decide +kernel)
theorem wi_X6_put : Cond.instanceMethod yX6_put ∈ lwG := lwT_in (i := 450) (by decide +kernel) (by decide +kernel)
theorem wi_X9_comesTo : Cond.instanceMethod yX9_comesTo ∈ lwG := lwT_in (i := 1439) (by decide +kernel) (by decide +kernel)
theorem wi_X9_copyPurses : Cond.instanceMethod yX9_copyPurses ∈ lwG := lwT_in (i := 474) (by decide +kernel) (by decide +kernel)
theorem wi_X9_firstOf : Cond.instanceMethod yX9_firstOf ∈ lwG := lwT_in (i := 505) (by decide +kernel) (by decide +kernel)
theorem wi_X9_give : Cond.instanceMethod yX9_give ∈ lwG := lwT_in (i := 549) (by decide +kernel) (by decide +kernel)
theorem wi_X9_insurersOf : Cond.instanceMethod yX9_insurersOf ∈ lwG := lwT_in (i := 500) (by decide +kernel) (by decide +kernel)
theorem wi_X9_insurersOfPair : Cond.instanceMethod yX9_insurersOfPair ∈ lwG := lwT_in (i := 517) (by decide +kernel) (by decide +kernel)
theorem wi_X9_isLeastOfRing : Cond.instanceMethod yX9_isLeastOfRing ∈ lwG := lwT_in (i := 565) (by decide +kernel) (by decide +kernel)
theorem wi_X9_isOver : Cond.instanceMethod yX9_isOver ∈ lwG := lwT_in (i := 492) (by decide +kernel) (by decide +kernel)
theorem wi_X9_isRuined : Cond.instanceMethod yX9_isRuined ∈ lwG := lwT_in (i := 534) (by decide +kernel) (by decide +kernel)
theorem wi_X9_isWed : Cond.instanceMethod yX9_isWed ∈ lwG := lwT_in (i := 606) (by decide +kernel) (by decide +kernel)
theorem wi_X9_likingOf : Cond.instanceMethod yX9_likingOf ∈ lwG := lwT_in (i := 589) (by decide +kernel) (by decide +kernel)
theorem wi_X9_logRows : Cond.instanceMethod yX9_logRows ∈ lwG := lwT_in (i := 675) (by decide +kernel) (by decide +kernel)
theorem wi_X9_logged : Cond.instanceMethod yX9_logged ∈ lwG := lwT_in (i := 1600) (by decide +kernel) (by decide +kernel)
theorem wi_X9_payOut : Cond.instanceMethod yX9_payOut ∈ lwG := lwT_in (i := 531) (by decide +kernel) (by decide +kernel)
theorem wi_X9_ringSteps : Cond.instanceMethod yX9_ringSteps ∈ lwG := lwT_in (i := 560) (by decide +kernel) (by decide +kernel)
theorem wi_X9_ruinIfShort : Cond.instanceMethod yX9_ruinIfShort ∈ lwG := lwT_in (i := 539) (by decide +kernel) (by decide +kernel)
theorem wi_X9_secondOf : Cond.instanceMethod yX9_secondOf ∈ lwG := lwT_in (i := 513) (by decide +kernel) (by decide +kernel)
theorem wi_X9_spouseOf : Cond.instanceMethod yX9_spouseOf ∈ lwG := lwT_in (i := 585) (by decide +kernel) (by decide +kernel)
theorem wi_X9_take : Cond.instanceMethod yX9_take ∈ lwG := lwT_in (i := 543) (by decide +kernel) (by decide +kernel)
theorem wi_X9_wealthOfAll : Cond.instanceMethod yX9_wealthOfAll ∈ lwG := lwT_in (i := 666) (by decide +kernel) (by decide +kernel)
theorem wk_J6_265 : Cond.constant RJ6 265 1431655765 ∈ lwG := lwT_in (i := 526) (by decide +kernel) (by decide +kernel)
theorem wk_J6_266 : Cond.constant RJ6 266 858993459 ∈ lwG := lwT_in (i := 527) (by decide +kernel) (by decide +kernel)
theorem wk_J6_267 : Cond.constant RJ6 267 252645135 ∈ lwG := lwT_in (i := 528) (by decide +kernel) (by decide +kernel)
theorem wl_X6_X6_at : Cond.selects RX6 yX6_at yX6_at ∈ lwG := lwT_in (i := 510) (by decide +kernel) (by decide +kernel)
theorem wl_X6_X6_copyAll : Cond.selects RX6 yX6_copyAll yX6_copyAll ∈ lwG := lwT_in (i := 479) (by decide +kernel) (by decide +kernel)
theorem wl_X6_X6_put : Cond.selects RX6 yX6_put yX6_put ∈ lwG := lwT_in (i := 451) (by decide +kernel) (by decide +kernel)
theorem wl_X9_X9_comesTo : Cond.selects RX9 yX9_comesTo yX9_comesTo ∈ lwG := lwP_in (i := 36) (by decide +kernel) (by decide +kernel)
theorem wl_X9_X9_copyPurses : Cond.selects RX9 yX9_copyPurses yX9_copyPurses ∈ lwG := lwT_in (i := 475) (by decide +kernel) (by decide +kernel)
theorem wl_X9_X9_firstOf : Cond.selects RX9 yX9_firstOf yX9_firstOf ∈ lwG := lwT_in (i := 506) (by decide +kernel) (by decide +kernel)
theorem wl_X9_X9_give : Cond.selects RX9 yX9_give yX9_give ∈ lwG := lwP_in (i := 5) (by decide +kernel) (by decide +kernel)
theorem wl_X9_X9_insurersOf : Cond.selects RX9 yX9_insurersOf yX9_insurersOf ∈ lwG := lwT_in (i := 501) (by decide +kernel) (by decide +kernel)
theorem wl_X9_X9_insurersOfPair : Cond.selects RX9 yX9_insurersOfPair yX9_insurersOfPair ∈ lwG := lwT_in (i := 518) (by decide +kernel) (by decide +kernel)
theorem wl_X9_X9_isLeastOfRing : Cond.selects RX9 yX9_isLeastOfRing yX9_isLeastOfRing ∈ lwG := lwP_in (i := 6) (by decide +kernel) (by decide +kernel)
theorem wl_X9_X9_isOver : Cond.selects RX9 yX9_isOver yX9_isOver ∈ lwG := lwT_in (i := 493) (by decide +kernel) (by decide +kernel)
theorem wl_X9_X9_isRuined : Cond.selects RX9 yX9_isRuined yX9_isRuined ∈ lwG := lwT_in (i := 535) (by decide +kernel) (by decide +kernel)
theorem wl_X9_X9_isWed : Cond.selects RX9 yX9_isWed yX9_isWed ∈ lwG := lwT_in (i := 607) (by decide +kernel) (by decide +kernel)
theorem wl_X9_X9_likingOf : Cond.selects RX9 yX9_likingOf yX9_likingOf ∈ lwG := lwT_in (i := 590) (by decide +kernel) (by decide +kernel)
theorem wl_X9_X9_logRows : Cond.selects RX9 yX9_logRows yX9_logRows ∈ lwG := lwT_in (i := 676) (by decide +kernel) (by decide +kernel)
theorem wl_X9_X9_logged : Cond.selects RX9 yX9_logged yX9_logged ∈ lwG := lwT_in (i := 1601) (by decide +kernel) (by decide +kernel)
theorem wl_X9_X9_payOut : Cond.selects RX9 yX9_payOut yX9_payOut ∈ lwG := lwP_in (i := 2) (by decide +kernel) (by decide +kernel)
theorem wl_X9_X9_ringSteps : Cond.selects RX9 yX9_ringSteps yX9_ringSteps ∈ lwG := lwT_in (i := 561) (by decide +kernel) (by decide +kernel)
theorem wl_X9_X9_ruinIfShort : Cond.selects RX9 yX9_ruinIfShort yX9_ruinIfShort ∈ lwG := lwP_in (i := 3) (by decide +kernel) (by decide +kernel)
theorem wl_X9_X9_secondOf : Cond.selects RX9 yX9_secondOf yX9_secondOf ∈ lwG := lwT_in (i := 514) (by decide +kernel) (by decide +kernel)
theorem wl_X9_X9_spouseOf : Cond.selects RX9 yX9_spouseOf yX9_spouseOf ∈ lwG := lwT_in (i := 586) (by decide +kernel) (by decide +kernel)
theorem wl_X9_X9_take : Cond.selects RX9 yX9_take yX9_take ∈ lwG := lwP_in (i := 4) (by decide +kernel) (by decide +kernel)
theorem wl_X9_X9_wealthOfAll : Cond.selects RX9 yX9_wealthOfAll yX9_wealthOfAll ∈ lwG := lwT_in (i := 667) (by decide +kernel) (by decide +kernel)
theorem wm_X9_102 : Cond.methodLink RX9 102 yX9_isRuined ∈ lwG := lwT_in (i := 533) (by decide +kernel) (by decide +kernel)
theorem wm_X9_106 : Cond.methodLink RX9 106 yX9_ringSteps ∈ lwG := lwT_in (i := 559) (by decide +kernel) (by decide +kernel)
theorem wm_X9_109 : Cond.methodLink RX9 109 yX9_isLeastOfRing ∈ lwG := lwT_in (i := 563) (by decide +kernel) (by decide +kernel)
theorem wm_X9_112 : Cond.methodLink RX9 112 yX9_comesTo ∈ lwG := lwT_in (i := 1437) (by decide +kernel) (by decide +kernel)
theorem wm_X9_118 : Cond.methodLink RX9 118 yX9_isOver ∈ lwG := lwT_in (i := 503) (by decide +kernel) (by decide +kernel)
theorem wm_X9_121 : Cond.methodLink RX9 121 yX9_firstOf ∈ lwG := lwT_in (i := 504) (by decide +kernel) (by decide +kernel)
theorem wm_X9_124 : Cond.methodLink RX9 124 yX9_secondOf ∈ lwG := lwT_in (i := 512) (by decide +kernel) (by decide +kernel)
theorem wm_X9_127 : Cond.methodLink RX9 127 yX9_spouseOf ∈ lwG := lwT_in (i := 609) (by decide +kernel) (by decide +kernel)
theorem wm_X9_130 : Cond.methodLink RX9 130 yX9_isWed ∈ lwG := lwT_in (i := 673) (by decide +kernel) (by decide +kernel)
theorem wm_X9_133 : Cond.methodLink RX9 133 yJ6_bitCount_0f7a4 ∈ lwG := lwT_in (i := 523) (by decide +kernel) (by decide +kernel)
theorem wm_X9_138 : Cond.methodLink RX9 138 yX9_insurersOfPair ∈ lwG := lwT_in (i := 516) (by decide +kernel) (by decide +kernel)
theorem wm_X9_150 : Cond.methodLink RX9 150 yX9_insurersOf ∈ lwG := lwT_in (i := 499) (by decide +kernel) (by decide +kernel)
theorem wm_X9_156 : Cond.methodLink RX9 156 yX9_likingOf ∈ lwG := lwT_in (i := 1160) (by decide +kernel) (by decide +kernel)
theorem wm_X9_198 : Cond.methodLink RX9 198 yX9_take ∈ lwG := lwT_in (i := 541) (by decide +kernel) (by decide +kernel)
theorem wm_X9_201 : Cond.methodLink RX9 201 yX9_give ∈ lwG := lwT_in (i := 547) (by decide +kernel) (by decide +kernel)
theorem wm_X9_204 : Cond.methodLink RX9 204 yX9_payOut ∈ lwG := lwT_in (i := 529) (by decide +kernel) (by decide +kernel)
theorem wm_X9_207 : Cond.methodLink RX9 207 yX9_ruinIfShort ∈ lwG := lwT_in (i := 537) (by decide +kernel) (by decide +kernel)
theorem wm_X9_210 : Cond.methodLink RX9 210 yX9_logRows ∈ lwG := lwT_in (i := 1598) (by decide +kernel) (by decide +kernel)
theorem wm_X9_213 : Cond.methodLink RX9 213 yX9_logged ∈ lwG := lwT_in (i := 1599) (by decide +kernel) (by decide +kernel)
theorem wm_X9_54 : Cond.methodLink RX9 54 yX9_copyPurses ∈ lwG := lwT_in (i := 473) (by decide +kernel) (by decide +kernel)
theorem wm_X9_58 : Cond.methodLink RX9 58 yX6_copyAll ∈ lwG := lwT_in (i := 477) (by decide +kernel) (by decide +kernel)
theorem wm_X9_86 : Cond.methodLink RX9 86 yX6_put ∈ lwG := lwT_in (i := 546) (by decide +kernel) (by decide +kernel)
theorem wm_X9_90 : Cond.methodLink RX9 90 yX6_at ∈ lwG := lwT_in (i := 508) (by decide +kernel) (by decide +kernel)
theorem wm_X9_98 : Cond.methodLink RX9 98 yX9_wealthOfAll ∈ lwG := lwT_in (i := 1106) (by decide +kernel) (by decide +kernel)
theorem ws_J6_bitCount_0f7a4 : Cond.static yJ6_bitCount_0f7a4 ∈ lwG := lwT_in (i := 524) (by decide +kernel) (by decide +kernel)
theorem ws_X11_contains : Cond.static yX11_contains ∈ lwG := lwT_in (i := 521) (by decide +kernel) (by decide +kernel)
theorem ws_X11_happyWithin : Cond.static yX11_happyWithin ∈ lwG := lwT_in (i := 1241) (by decide +kernel) (by decide +kernel)
theorem wz_J6 : Cond.initialized RJ6 ∈ lwG := lwT_in (i := 28) (by decide +kernel) (by decide +kernel)
theorem wz_X11 : Cond.initialized RX11 ∈ lwG := lwT_in (i := 1) (by decide +kernel) (by decide +kernel)
theorem wz_X6 : Cond.initialized RX6 ∈ lwG := lwT_in (i := 2) (by decide +kernel) (by decide +kernel)
theorem wz_X9 : Cond.initialized RX9 ∈ lwG := lwT_in (i := 3) (by decide +kernel) (by decide +kernel)
theorem gb_J6_bitCount_0f7a4 : GoodIn lwG (wA yJ6_bitCount_0f7a4 cJ6_bitCount_0f7a4 1 (some .int)) := gA0 wc_J6_bitCount_0f7a4
theorem gb_X11_contains : GoodIn lwG (wA yX11_contains cX11_contains 2 (some .boolean)) := gA0 wc_X11_contains
theorem gb_X11_happyWithin : GoodIn lwG (wA yX11_happyWithin cX11_happyWithin 1 (some .int)) := gA0 wc_X11_happyWithin
theorem gv_X9_102 : GoodIn lwG (wsV RX9 102 RX9 yX9_isRuined (wA yX9_isRuined cX9_isRuined 2 (some .boolean))) := gA4 wm_X9_102 wi_X9_isRuined wl_X9_X9_isRuined wz_X9 wc_X9_isRuined
theorem gv_X9_106 : GoodIn lwG (wsV RX9 106 RX9 yX9_ringSteps (wA yX9_ringSteps cX9_ringSteps 4 (some .int))) := gA4 wm_X9_106 wi_X9_ringSteps wl_X9_X9_ringSteps wz_X9 wc_X9_ringSteps
theorem gv_X9_109 : GoodIn lwG (wsV RX9 109 RX9 yX9_isLeastOfRing (wA yX9_isLeastOfRing cX9_isLeastOfRing 4 (some .boolean))) := gA4 wm_X9_109 wi_X9_isLeastOfRing wl_X9_X9_isLeastOfRing wz_X9 wc_X9_isLeastOfRing
theorem gv_X9_112 : GoodIn lwG (wsV RX9 112 RX9 yX9_comesTo (wA yX9_comesTo cX9_comesTo 5 (some .boolean))) := gA4 wm_X9_112 wi_X9_comesTo wl_X9_X9_comesTo wz_X9 wc_X9_comesTo
theorem gv_X9_118 : GoodIn lwG (wsV RX9 118 RX9 yX9_isOver (wA yX9_isOver cX9_isOver 2 (some .boolean))) := gA4 wm_X9_118 wi_X9_isOver wl_X9_X9_isOver wz_X9 wc_X9_isOver
theorem gv_X9_121 : GoodIn lwG (wsV RX9 121 RX9 yX9_firstOf (wA yX9_firstOf cX9_firstOf 2 (some .int))) := gA4 wm_X9_121 wi_X9_firstOf wl_X9_X9_firstOf wz_X9 wc_X9_firstOf
theorem gv_X9_124 : GoodIn lwG (wsV RX9 124 RX9 yX9_secondOf (wA yX9_secondOf cX9_secondOf 2 (some .int))) := gA4 wm_X9_124 wi_X9_secondOf wl_X9_X9_secondOf wz_X9 wc_X9_secondOf
theorem gv_X9_127 : GoodIn lwG (wsV RX9 127 RX9 yX9_spouseOf (wA yX9_spouseOf cX9_spouseOf 3 (some .int))) := gA4 wm_X9_127 wi_X9_spouseOf wl_X9_X9_spouseOf wz_X9 wc_X9_spouseOf
theorem gv_X9_130 : GoodIn lwG (wsV RX9 130 RX9 yX9_isWed (wA yX9_isWed cX9_isWed 2 (some .boolean))) := gA4 wm_X9_130 wi_X9_isWed wl_X9_X9_isWed wz_X9 wc_X9_isWed
theorem gv_X9_138 : GoodIn lwG (wsV RX9 138 RX9 yX9_insurersOfPair (wA yX9_insurersOfPair cX9_insurersOfPair 6 (some .int))) := gA4 wm_X9_138 wi_X9_insurersOfPair wl_X9_X9_insurersOfPair wz_X9 wc_X9_insurersOfPair
theorem gv_X9_150 : GoodIn lwG (wsV RX9 150 RX9 yX9_insurersOf (wA yX9_insurersOf cX9_insurersOf 2 (some .int))) := gA4 wm_X9_150 wi_X9_insurersOf wl_X9_X9_insurersOf wz_X9 wc_X9_insurersOf
theorem gv_X9_156 : GoodIn lwG (wsV RX9 156 RX9 yX9_likingOf (wA yX9_likingOf cX9_likingOf 3 (some .int))) := gA4 wm_X9_156 wi_X9_likingOf wl_X9_X9_likingOf wz_X9 wc_X9_likingOf
theorem gv_X9_198 : GoodIn lwG (wsV RX9 198 RX9 yX9_take (wA yX9_take cX9_take 4 (some .int))) := gA4 wm_X9_198 wi_X9_take wl_X9_X9_take wz_X9 wc_X9_take
theorem gv_X9_201 : GoodIn lwG (wsV RX9 201 RX9 yX9_give (wA yX9_give cX9_give 3 none)) := gA4 wm_X9_201 wi_X9_give wl_X9_X9_give wz_X9 wc_X9_give
theorem gv_X9_204 : GoodIn lwG (wsV RX9 204 RX9 yX9_payOut (wA yX9_payOut cX9_payOut 3 (some .int))) := gA4 wm_X9_204 wi_X9_payOut wl_X9_X9_payOut wz_X9 wc_X9_payOut
theorem gv_X9_207 : GoodIn lwG (wsV RX9 207 RX9 yX9_ruinIfShort (wA yX9_ruinIfShort cX9_ruinIfShort 3 none)) := gA4 wm_X9_207 wi_X9_ruinIfShort wl_X9_X9_ruinIfShort wz_X9 wc_X9_ruinIfShort
theorem gv_X9_210 : GoodIn lwG (wsV RX9 210 RX9 yX9_logRows (wA yX9_logRows cX9_logRows 1 (some .int))) := gA4 wm_X9_210 wi_X9_logRows wl_X9_X9_logRows wz_X9 wc_X9_logRows
theorem gv_X9_213 : GoodIn lwG (wsV RX9 213 RX9 yX9_logged (wA yX9_logged cX9_logged 3 (some .int))) := gA4 wm_X9_213 wi_X9_logged wl_X9_X9_logged wz_X9 wc_X9_logged
theorem gv_X9_54 : GoodIn lwG (wsV RX9 54 RX9 yX9_copyPurses (wA yX9_copyPurses cX9_copyPurses 2 none)) := gA4 wm_X9_54 wi_X9_copyPurses wl_X9_X9_copyPurses wz_X9 wc_X9_copyPurses
theorem gv_X9_58 : GoodIn lwG (wsV RX9 58 RX6 yX6_copyAll (wA yX6_copyAll cX6_copyAll 2 none)) := gA4 wm_X9_58 wi_X6_copyAll wl_X6_X6_copyAll wz_X6 wc_X6_copyAll
theorem gv_X9_86 : GoodIn lwG (wsV RX9 86 RX6 yX6_put (wA yX6_put cX6_put 3 none)) := gA4 wm_X9_86 wi_X6_put wl_X6_X6_put wz_X6 wc_X6_put
theorem gv_X9_90 : GoodIn lwG (wsV RX9 90 RX6 yX6_at (wA yX6_at cX6_at 2 (some .int))) := gA4 wm_X9_90 wi_X6_at wl_X6_X6_at wz_X6 wc_X6_at
theorem gv_X9_98 : GoodIn lwG (wsV RX9 98 RX9 yX9_wealthOfAll (wA yX9_wealthOfAll cX9_wealthOfAll 3 (some .int))) := gA4 wm_X9_98 wi_X9_wealthOfAll wl_X9_X9_wealthOfAll wz_X9 wc_X9_wealthOfAll

theorem yk_X6_copyAll : yX6_copyAll.cls = RX6 ∧ yX6_copyAll.cls ≠ "java/lang/invoke/MethodHandle" ∧ yX6_copyAll.cls ≠ "java/lang/invoke/VarHandle" ∧ (parseMethodDescriptor yX6_copyAll.desc).map (fun d => d.parameters.length) = some 1 := ⟨rfl, by decide +kernel, by decide +kernel, by decide +kernel⟩
theorem yk_X9_copyPurses : yX9_copyPurses.cls = RX9 ∧ yX9_copyPurses.cls ≠ "java/lang/invoke/MethodHandle" ∧ yX9_copyPurses.cls ≠ "java/lang/invoke/VarHandle" ∧ (parseMethodDescriptor yX9_copyPurses.desc).map (fun d => d.parameters.length) = some 1 := ⟨rfl, by decide +kernel, by decide +kernel, by decide +kernel⟩
theorem yk_X6_put : yX6_put.cls = RX6 ∧ yX6_put.cls ≠ "java/lang/invoke/MethodHandle" ∧ yX6_put.cls ≠ "java/lang/invoke/VarHandle" ∧ (parseMethodDescriptor yX6_put.desc).map (fun d => d.parameters.length) = some 2 := ⟨rfl, by decide +kernel, by decide +kernel, by decide +kernel⟩
theorem yk_X6_at : yX6_at.cls = RX6 ∧ yX6_at.cls ≠ "java/lang/invoke/MethodHandle" ∧ yX6_at.cls ≠ "java/lang/invoke/VarHandle" ∧ (parseMethodDescriptor yX6_at.desc).map (fun d => d.parameters.length) = some 1 := ⟨rfl, by decide +kernel, by decide +kernel, by decide +kernel⟩
theorem yk_X11_contains : yX11_contains.cls = RX11 ∧ yX11_contains.cls ≠ "java/lang/invoke/MethodHandle" ∧ yX11_contains.cls ≠ "java/lang/invoke/VarHandle" ∧ (parseMethodDescriptor yX11_contains.desc).map (fun d => d.parameters.length) = some 2 := ⟨rfl, by decide +kernel, by decide +kernel, by decide +kernel⟩
theorem yk_X9_wealthOfAll : yX9_wealthOfAll.cls = RX9 ∧ yX9_wealthOfAll.cls ≠ "java/lang/invoke/MethodHandle" ∧ yX9_wealthOfAll.cls ≠ "java/lang/invoke/VarHandle" ∧ (parseMethodDescriptor yX9_wealthOfAll.desc).map (fun d => d.parameters.length) = some 0 := ⟨rfl, by decide +kernel, by decide +kernel, by decide +kernel⟩
theorem yk_X9_isRuined : yX9_isRuined.cls = RX9 ∧ yX9_isRuined.cls ≠ "java/lang/invoke/MethodHandle" ∧ yX9_isRuined.cls ≠ "java/lang/invoke/VarHandle" ∧ (parseMethodDescriptor yX9_isRuined.desc).map (fun d => d.parameters.length) = some 1 := ⟨rfl, by decide +kernel, by decide +kernel, by decide +kernel⟩
theorem yk_X9_ringSteps : yX9_ringSteps.cls = RX9 ∧ yX9_ringSteps.cls ≠ "java/lang/invoke/MethodHandle" ∧ yX9_ringSteps.cls ≠ "java/lang/invoke/VarHandle" ∧ (parseMethodDescriptor yX9_ringSteps.desc).map (fun d => d.parameters.length) = some 1 := ⟨rfl, by decide +kernel, by decide +kernel, by decide +kernel⟩
theorem yk_X9_isLeastOfRing : yX9_isLeastOfRing.cls = RX9 ∧ yX9_isLeastOfRing.cls ≠ "java/lang/invoke/MethodHandle" ∧ yX9_isLeastOfRing.cls ≠ "java/lang/invoke/VarHandle" ∧ (parseMethodDescriptor yX9_isLeastOfRing.desc).map (fun d => d.parameters.length) = some 1 := ⟨rfl, by decide +kernel, by decide +kernel, by decide +kernel⟩
theorem yk_X9_comesTo : yX9_comesTo.cls = RX9 ∧ yX9_comesTo.cls ≠ "java/lang/invoke/MethodHandle" ∧ yX9_comesTo.cls ≠ "java/lang/invoke/VarHandle" ∧ (parseMethodDescriptor yX9_comesTo.desc).map (fun d => d.parameters.length) = some 2 := ⟨rfl, by decide +kernel, by decide +kernel, by decide +kernel⟩
theorem yk_X11_happyWithin : yX11_happyWithin.cls = RX11 ∧ yX11_happyWithin.cls ≠ "java/lang/invoke/MethodHandle" ∧ yX11_happyWithin.cls ≠ "java/lang/invoke/VarHandle" ∧ (parseMethodDescriptor yX11_happyWithin.desc).map (fun d => d.parameters.length) = some 1 := ⟨rfl, by decide +kernel, by decide +kernel, by decide +kernel⟩
theorem yk_X9_isOver : yX9_isOver.cls = RX9 ∧ yX9_isOver.cls ≠ "java/lang/invoke/MethodHandle" ∧ yX9_isOver.cls ≠ "java/lang/invoke/VarHandle" ∧ (parseMethodDescriptor yX9_isOver.desc).map (fun d => d.parameters.length) = some 1 := ⟨rfl, by decide +kernel, by decide +kernel, by decide +kernel⟩
theorem yk_X9_secondOf : yX9_secondOf.cls = RX9 ∧ yX9_secondOf.cls ≠ "java/lang/invoke/MethodHandle" ∧ yX9_secondOf.cls ≠ "java/lang/invoke/VarHandle" ∧ (parseMethodDescriptor yX9_secondOf.desc).map (fun d => d.parameters.length) = some 1 := ⟨rfl, by decide +kernel, by decide +kernel, by decide +kernel⟩
theorem yk_X9_firstOf : yX9_firstOf.cls = RX9 ∧ yX9_firstOf.cls ≠ "java/lang/invoke/MethodHandle" ∧ yX9_firstOf.cls ≠ "java/lang/invoke/VarHandle" ∧ (parseMethodDescriptor yX9_firstOf.desc).map (fun d => d.parameters.length) = some 1 := ⟨rfl, by decide +kernel, by decide +kernel, by decide +kernel⟩
theorem yk_X9_spouseOf : yX9_spouseOf.cls = RX9 ∧ yX9_spouseOf.cls ≠ "java/lang/invoke/MethodHandle" ∧ yX9_spouseOf.cls ≠ "java/lang/invoke/VarHandle" ∧ (parseMethodDescriptor yX9_spouseOf.desc).map (fun d => d.parameters.length) = some 1 := ⟨rfl, by decide +kernel, by decide +kernel, by decide +kernel⟩
theorem yk_X9_isWed : yX9_isWed.cls = RX9 ∧ yX9_isWed.cls ≠ "java/lang/invoke/MethodHandle" ∧ yX9_isWed.cls ≠ "java/lang/invoke/VarHandle" ∧ (parseMethodDescriptor yX9_isWed.desc).map (fun d => d.parameters.length) = some 1 := ⟨rfl, by decide +kernel, by decide +kernel, by decide +kernel⟩
theorem yk_J6_bitCount_0f7a4 : yJ6_bitCount_0f7a4.cls = RJ6 ∧ yJ6_bitCount_0f7a4.cls ≠ "java/lang/invoke/MethodHandle" ∧ yJ6_bitCount_0f7a4.cls ≠ "java/lang/invoke/VarHandle" ∧ (parseMethodDescriptor yJ6_bitCount_0f7a4.desc).map (fun d => d.parameters.length) = some 1 := ⟨rfl, by decide +kernel, by decide +kernel, by decide +kernel⟩
theorem yk_X9_insurersOfPair : yX9_insurersOfPair.cls = RX9 ∧ yX9_insurersOfPair.cls ≠ "java/lang/invoke/MethodHandle" ∧ yX9_insurersOfPair.cls ≠ "java/lang/invoke/VarHandle" ∧ (parseMethodDescriptor yX9_insurersOfPair.desc).map (fun d => d.parameters.length) = some 2 := ⟨rfl, by decide +kernel, by decide +kernel, by decide +kernel⟩
theorem yk_X9_insurersOf : yX9_insurersOf.cls = RX9 ∧ yX9_insurersOf.cls ≠ "java/lang/invoke/MethodHandle" ∧ yX9_insurersOf.cls ≠ "java/lang/invoke/VarHandle" ∧ (parseMethodDescriptor yX9_insurersOf.desc).map (fun d => d.parameters.length) = some 1 := ⟨rfl, by decide +kernel, by decide +kernel, by decide +kernel⟩
theorem yk_X9_likingOf : yX9_likingOf.cls = RX9 ∧ yX9_likingOf.cls ≠ "java/lang/invoke/MethodHandle" ∧ yX9_likingOf.cls ≠ "java/lang/invoke/VarHandle" ∧ (parseMethodDescriptor yX9_likingOf.desc).map (fun d => d.parameters.length) = some 2 := ⟨rfl, by decide +kernel, by decide +kernel, by decide +kernel⟩
theorem yk_X9_ruinIfShort : yX9_ruinIfShort.cls = RX9 ∧ yX9_ruinIfShort.cls ≠ "java/lang/invoke/MethodHandle" ∧ yX9_ruinIfShort.cls ≠ "java/lang/invoke/VarHandle" ∧ (parseMethodDescriptor yX9_ruinIfShort.desc).map (fun d => d.parameters.length) = some 2 := ⟨rfl, by decide +kernel, by decide +kernel, by decide +kernel⟩
theorem yk_X9_take : yX9_take.cls = RX9 ∧ yX9_take.cls ≠ "java/lang/invoke/MethodHandle" ∧ yX9_take.cls ≠ "java/lang/invoke/VarHandle" ∧ (parseMethodDescriptor yX9_take.desc).map (fun d => d.parameters.length) = some 2 := ⟨rfl, by decide +kernel, by decide +kernel, by decide +kernel⟩
theorem yk_X9_give : yX9_give.cls = RX9 ∧ yX9_give.cls ≠ "java/lang/invoke/MethodHandle" ∧ yX9_give.cls ≠ "java/lang/invoke/VarHandle" ∧ (parseMethodDescriptor yX9_give.desc).map (fun d => d.parameters.length) = some 2 := ⟨rfl, by decide +kernel, by decide +kernel, by decide +kernel⟩
theorem yk_X9_payOut : yX9_payOut.cls = RX9 ∧ yX9_payOut.cls ≠ "java/lang/invoke/MethodHandle" ∧ yX9_payOut.cls ≠ "java/lang/invoke/VarHandle" ∧ (parseMethodDescriptor yX9_payOut.desc).map (fun d => d.parameters.length) = some 1 := ⟨rfl, by decide +kernel, by decide +kernel, by decide +kernel⟩
theorem yk_X9_logRows : yX9_logRows.cls = RX9 ∧ yX9_logRows.cls ≠ "java/lang/invoke/MethodHandle" ∧ yX9_logRows.cls ≠ "java/lang/invoke/VarHandle" ∧ (parseMethodDescriptor yX9_logRows.desc).map (fun d => d.parameters.length) = some 0 := ⟨rfl, by decide +kernel, by decide +kernel, by decide +kernel⟩
theorem yk_X9_logged : yX9_logged.cls = RX9 ∧ yX9_logged.cls ≠ "java/lang/invoke/MethodHandle" ∧ yX9_logged.cls ≠ "java/lang/invoke/VarHandle" ∧ (parseMethodDescriptor yX9_logged.desc).map (fun d => d.parameters.length) = some 2 := ⟨rfl, by decide +kernel, by decide +kernel, by decide +kernel⟩
