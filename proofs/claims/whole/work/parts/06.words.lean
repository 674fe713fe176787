theorem uin_X0 : ∀ w ∈ u_ws RX0 TX0 4, w ∈ lwG := by
  refine all_in ?_
  intro k hk
  have hk9 : k < 4 := hk
  match k, hk9 with
  | 0, _ => exact ⟨_, rfl, lwT_in (i := 338) (by decide +kernel) (by decide +kernel)⟩
  | 1, _ => exact ⟨_, rfl, lwT_in (i := 340) (by decide +kernel) (by decide +kernel)⟩
  | 2, _ => exact ⟨_, rfl, lwT_in (i := 342) (by decide +kernel) (by decide +kernel)⟩
  | 3, _ => exact ⟨_, rfl, lwT_in (i := 344) (by decide +kernel) (by decide +kernel)⟩
  | k9 + 4, h9 => exact absurd h9 (by omega)

theorem uin_X2 : ∀ w ∈ u_ws RX2 TX2 6, w ∈ lwG := by
  refine all_in ?_
  intro k hk
  have hk9 : k < 6 := hk
  match k, hk9 with
  | 0, _ => exact ⟨_, rfl, lwT_in (i := 164) (by decide +kernel) (by decide +kernel)⟩
  | 1, _ => exact ⟨_, rfl, lwT_in (i := 166) (by decide +kernel) (by decide +kernel)⟩
  | 2, _ => exact ⟨_, rfl, lwT_in (i := 168) (by decide +kernel) (by decide +kernel)⟩
  | 3, _ => exact ⟨_, rfl, lwT_in (i := 170) (by decide +kernel) (by decide +kernel)⟩
  | 4, _ => exact ⟨_, rfl, lwT_in (i := 172) (by decide +kernel) (by decide +kernel)⟩
  | 5, _ => exact ⟨_, rfl, lwT_in (i := 174) (by decide +kernel) (by decide +kernel)⟩
  | k9 + 6, h9 => exact absurd h9 (by omega)

theorem uin_X3 : ∀ w ∈ u_ws RX3 TX3 14, w ∈ lwG := by
  refine all_in ?_
  intro k hk
  have hk9 : k < 14 := hk
  match k, hk9 with
  | 0, _ => exact ⟨_, rfl, lwT_in (i := 269) (by decide +kernel) (by decide +kernel)⟩
  | 1, _ => exact ⟨_, rfl, lwT_in (i := 270) (by decide +kernel) (by decide +kernel)⟩
  | 2, _ => exact ⟨_, rfl, lwT_in (i := 271) (by decide +kernel) (by decide +kernel)⟩
  | 3, _ => exact ⟨_, rfl, lwT_in (i := 272) (by decide +kernel) (by decide +kernel)⟩
  | 4, _ => exact ⟨_, rfl, lwT_in (i := 273) (by decide +kernel) (by decide +kernel)⟩
  | 5, _ => exact ⟨_, rfl, lwT_in (i := 274) (by decide +kernel) (by decide +kernel)⟩
  | 6, _ => exact ⟨_, rfl, lwT_in (i := 275) (by decide +kernel) (by decide +kernel)⟩
  | 7, _ => exact ⟨_, rfl, lwT_in (i := 276) (by decide +kernel) (by decide +kernel)⟩
  | 8, _ => exact ⟨_, rfl, lwT_in (i := 277) (by decide +kernel) (by decide +kernel)⟩
  | 9, _ => exact ⟨_, rfl, lwT_in (i := 278) (by decide +kernel) (by decide +kernel)⟩
  | 10, _ => exact ⟨_, rfl, lwT_in (i := 279) (by decide +kernel) (by decide +kernel)⟩
  | 11, _ => exact ⟨_, rfl, lwT_in (i := 280) (by decide +kernel) (by decide +kernel)⟩
  | 12, _ => exact ⟨_, rfl, lwT_in (i := 281) (by decide +kernel) (by decide +kernel)⟩
  | 13, _ => exact ⟨_, rfl, lwT_in (i := 267) (by decide +kernel) (by decide +kernel)⟩
  | k9 + 14, h9 => exact absurd h9 (by omega)

theorem uin_X4 : ∀ w ∈ u_ws RX4 TX4 7, w ∈ lwG := by
  refine all_in ?_
  intro k hk
  have hk9 : k < 7 := hk
  match k, hk9 with
  | 0, _ => exact ⟨_, rfl, lwT_in (i := 307) (by decide +kernel) (by decide +kernel)⟩
  | 1, _ => exact ⟨_, rfl, lwT_in (i := 309) (by decide +kernel) (by decide +kernel)⟩
  | 2, _ => exact ⟨_, rfl, lwT_in (i := 311) (by decide +kernel) (by decide +kernel)⟩
  | 3, _ => exact ⟨_, rfl, lwT_in (i := 313) (by decide +kernel) (by decide +kernel)⟩
  | 4, _ => exact ⟨_, rfl, lwT_in (i := 315) (by decide +kernel) (by decide +kernel)⟩
  | 5, _ => exact ⟨_, rfl, lwT_in (i := 317) (by decide +kernel) (by decide +kernel)⟩
  | 6, _ => exact ⟨_, rfl, lwT_in (i := 319) (by decide +kernel) (by decide +kernel)⟩
  | k9 + 7, h9 => exact absurd h9 (by omega)

theorem uin_X5 : ∀ w ∈ u_ws RX5 TX5 3, w ∈ lwG := by
  refine all_in ?_
  intro k hk
  have hk9 : k < 3 := hk
  match k, hk9 with
  | 0, _ => exact ⟨_, rfl, lwT_in (i := 358) (by decide +kernel) (by decide +kernel)⟩
  | 1, _ => exact ⟨_, rfl, lwT_in (i := 360) (by decide +kernel) (by decide +kernel)⟩
  | 2, _ => exact ⟨_, rfl, lwT_in (i := 362) (by decide +kernel) (by decide +kernel)⟩
  | k9 + 3, h9 => exact absurd h9 (by omega)

theorem uin_X6 : ∀ w ∈ u_ws RX6 TX6 1, w ∈ lwG := by
  refine all_in ?_
  intro k hk
  have hk9 : k < 1 := hk
  match k, hk9 with
  | 0, _ => exact ⟨_, rfl, lwT_in (i := 45) (by decide +kernel) (by decide +kernel)⟩
  | k9 + 1, h9 => exact absurd h9 (by omega)

theorem uin_X8 : ∀ w ∈ u_ws RX8 TX8 5, w ∈ lwG := by
  refine all_in ?_
  intro k hk
  have hk9 : k < 5 := hk
  match k, hk9 with
  | 0, _ => exact ⟨_, rfl, lwT_in (i := 378) (by decide +kernel) (by decide +kernel)⟩
  | 1, _ => exact ⟨_, rfl, lwT_in (i := 380) (by decide +kernel) (by decide +kernel)⟩
  | 2, _ => exact ⟨_, rfl, lwT_in (i := 382) (by decide +kernel) (by decide +kernel)⟩
  | 3, _ => exact ⟨_, rfl, lwT_in (i := 384) (by decide +kernel) (by decide +kernel)⟩
  | 4, _ => exact ⟨_, rfl, lwT_in (i := 386) (by decide +kernel) (by decide +kernel)⟩
  | k9 + 5, h9 => exact absurd h9 (by omega)

theorem uin_X9 : ∀ w ∈ u_ws RX9 TX9 20, w ∈ lwG := by
  refine all_in ?_
  intro k hk
  have hk9 : k < 20 := hk
  match k, hk9 with
  | 0, _ => exact ⟨_, rfl, lwT_in (i := 108) (by decide +kernel) (by decide +kernel)⟩
  | 1, _ => exact ⟨_, rfl, lwT_in (i := 110) (by decide +kernel) (by decide +kernel)⟩
  | 2, _ => exact ⟨_, rfl, lwT_in (i := 112) (by decide +kernel) (by decide +kernel)⟩
  | 3, _ => exact ⟨_, rfl, lwT_in (i := 114) (by decide +kernel) (by decide +kernel)⟩
  | 4, _ => exact ⟨_, rfl, lwT_in (i := 116) (by decide +kernel) (by decide +kernel)⟩
  | 5, _ => exact ⟨_, rfl, lwT_in (i := 118) (by decide +kernel) (by decide +kernel)⟩
  | 6, _ => exact ⟨_, rfl, lwT_in (i := 120) (by decide +kernel) (by decide +kernel)⟩
  | 7, _ => exact ⟨_, rfl, lwT_in (i := 122) (by decide +kernel) (by decide +kernel)⟩
  | 8, _ => exact ⟨_, rfl, lwT_in (i := 124) (by decide +kernel) (by decide +kernel)⟩
  | 9, _ => exact ⟨_, rfl, lwT_in (i := 126) (by decide +kernel) (by decide +kernel)⟩
  | 10, _ => exact ⟨_, rfl, lwT_in (i := 128) (by decide +kernel) (by decide +kernel)⟩
  | 11, _ => exact ⟨_, rfl, lwT_in (i := 130) (by decide +kernel) (by decide +kernel)⟩
  | 12, _ => exact ⟨_, rfl, lwT_in (i := 132) (by decide +kernel) (by decide +kernel)⟩
  | 13, _ => exact ⟨_, rfl, lwT_in (i := 134) (by decide +kernel) (by decide +kernel)⟩
  | 14, _ => exact ⟨_, rfl, lwT_in (i := 136) (by decide +kernel) (by decide +kernel)⟩
  | 15, _ => exact ⟨_, rfl, lwT_in (i := 138) (by decide +kernel) (by decide +kernel)⟩
  | 16, _ => exact ⟨_, rfl, lwT_in (i := 140) (by decide +kernel) (by decide +kernel)⟩
  | 17, _ => exact ⟨_, rfl, lwT_in (i := 142) (by decide +kernel) (by decide +kernel)⟩
  | 18, _ => exact ⟨_, rfl, lwT_in (i := 144) (by decide +kernel) (by decide +kernel)⟩
  | 19, _ => exact ⟨_, rfl, lwT_in (i := 146) (by decide +kernel) (by decide +kernel)⟩
  | k9 + 20, h9 => exact absurd h9 (by omega)

theorem uin_X10 : ∀ w ∈ u_ws RX10 TX10 14, w ∈ lwG := by
  refine all_in ?_
  intro k hk
  have hk9 : k < 14 := hk
  match k, hk9 with
  | 0, _ => exact ⟨_, rfl, lwT_in (i := 230) (by decide +kernel) (by decide +kernel)⟩
  | 1, _ => exact ⟨_, rfl, lwT_in (i := 232) (by decide +kernel) (by decide +kernel)⟩
  | 2, _ => exact ⟨_, rfl, lwT_in (i := 234) (by decide +kernel) (by decide +kernel)⟩
  | 3, _ => exact ⟨_, rfl, lwT_in (i := 236) (by decide +kernel) (by decide +kernel)⟩
  | 4, _ => exact ⟨_, rfl, lwT_in (i := 238) (by decide +kernel) (by decide +kernel)⟩
  | 5, _ => exact ⟨_, rfl, lwT_in (i := 240) (by decide +kernel) (by decide +kernel)⟩
  | 6, _ => exact ⟨_, rfl, lwT_in (i := 242) (by decide +kernel) (by decide +kernel)⟩
  | 7, _ => exact ⟨_, rfl, lwT_in (i := 244) (by decide +kernel) (by decide +kernel)⟩
  | 8, _ => exact ⟨_, rfl, lwT_in (i := 246) (by decide +kernel) (by decide +kernel)⟩
  | 9, _ => exact ⟨_, rfl, lwT_in (i := 248) (by decide +kernel) (by decide +kernel)⟩
  | 10, _ => exact ⟨_, rfl, lwT_in (i := 250) (by decide +kernel) (by decide +kernel)⟩
  | 11, _ => exact ⟨_, rfl, lwT_in (i := 252) (by decide +kernel) (by decide +kernel)⟩
  | 12, _ => exact ⟨_, rfl, lwT_in (i := 254) (by decide +kernel) (by decide +kernel)⟩
  | 13, _ => exact ⟨_, rfl, lwT_in (i := 228) (by decide +kernel) (by decide +kernel)⟩
  | k9 + 14, h9 => exact absurd h9 (by omega)

theorem uin_X11 : ∀ w ∈ u_ws RX11 TX11 17, w ∈ lwG := by
  refine all_in ?_
  intro k hk
  have hk9 : k < 17 := hk
  match k, hk9 with
  | 0, _ => exact ⟨_, rfl, lwT_in (i := 406) (by decide +kernel) (by decide +kernel)⟩
  | 1, _ => exact ⟨_, rfl, lwT_in (i := 408) (by decide +kernel) (by decide +kernel)⟩
  | 2, _ => exact ⟨_, rfl, lwT_in (i := 410) (by decide +kernel) (by decide +kernel)⟩
  | 3, _ => exact ⟨_, rfl, lwT_in (i := 412) (by decide +kernel) (by decide +kernel)⟩
  | 4, _ => exact ⟨_, rfl, lwT_in (i := 414) (by decide +kernel) (by decide +kernel)⟩
  | 5, _ => exact ⟨_, rfl, lwT_in (i := 416) (by decide +kernel) (by decide +kernel)⟩
  | 6, _ => exact ⟨_, rfl, lwT_in (i := 418) (by decide +kernel) (by decide +kernel)⟩
  | 7, _ => exact ⟨_, rfl, lwT_in (i := 420) (by decide +kernel) (by decide +kernel)⟩
  | 8, _ => exact ⟨_, rfl, lwT_in (i := 422) (by decide +kernel) (by decide +kernel)⟩
  | 9, _ => exact ⟨_, rfl, lwT_in (i := 424) (by decide +kernel) (by decide +kernel)⟩
  | 10, _ => exact ⟨_, rfl, lwT_in (i := 426) (by decide +kernel) (by decide +kernel)⟩
  | 11, _ => exact ⟨_, rfl, lwT_in (i := 428) (by decide +kernel) (by decide +kernel)⟩
  | 12, _ => exact ⟨_, rfl, lwT_in (i := 430) (by decide +kernel) (by decide +kernel)⟩
  | 13, _ => exact ⟨_, rfl, lwT_in (i := 432) (by decide +kernel) (by decide +kernel)⟩
  | 14, _ => exact ⟨_, rfl, lwT_in (i := 434) (by decide +kernel) (by decide +kernel)⟩
  | 15, _ => exact ⟨_, rfl, lwT_in (i := 436) (by decide +kernel) (by decide +kernel)⟩
  | 16, _ => exact ⟨_, rfl, lwT_in (i := 438) (by decide +kernel) (by decide +kernel)⟩
  | k9 + 17, h9 => exact absurd h9 (by omega)

theorem uin_X12 : ∀ w ∈ u_ws RX12 TX12 24, w ∈ lwG := by
  refine all_in ?_
  intro k hk
  have hk9 : k < 24 := hk
  match k, hk9 with
  | 0, _ => exact ⟨_, rfl, lwT_in (i := 1646) (by decide +kernel) (by decide +kernel)⟩
  | 1, _ => exact ⟨_, rfl, lwT_in (i := 1648) (by decide +kernel) (by decide +kernel)⟩
  | 2, _ => exact ⟨_, rfl, lwT_in (i := 1650) (by decide +kernel) (by decide +kernel)⟩
  | 3, _ => exact ⟨_, rfl, lwT_in (i := 1652) (by decide +kernel) (by decide +kernel)⟩
  | 4, _ => exact ⟨_, rfl, lwT_in (i := 1654) (by decide +kernel) (by decide +kernel)⟩
  | 5, _ => exact ⟨_, rfl, lwT_in (i := 1656) (by decide +kernel) (by decide +kernel)⟩
  | 6, _ => exact ⟨_, rfl, lwT_in (i := 1658) (by decide +kernel) (by decide +kernel)⟩
  | 7, _ => exact ⟨_, rfl, lwT_in (i := 1660) (by decide +kernel) (by decide +kernel)⟩
  | 8, _ => exact ⟨_, rfl, lwT_in (i := 1662) (by decide +kernel) (by decide +kernel)⟩
  | 9, _ => exact ⟨_, rfl, lwT_in (i := 1664) (by decide +kernel) (by decide +kernel)⟩
  | 10, _ => exact ⟨_, rfl, lwT_in (i := 1666) (by decide +kernel) (by decide +kernel)⟩
  | 11, _ => exact ⟨_, rfl, lwT_in (i := 1668) (by decide +kernel) (by decide +kernel)⟩
  | 12, _ => exact ⟨_, rfl, lwT_in (i := 1670) (by decide +kernel) (by decide +kernel)⟩
  | 13, _ => exact ⟨_, rfl, lwT_in (i := 1672) (by decide +kernel) (by decide +kernel)⟩
  | 14, _ => exact ⟨_, rfl, lwT_in (i := 1674) (by decide +kernel) (by decide +kernel)⟩
  | 15, _ => exact ⟨_, rfl, lwT_in (i := 1676) (by decide +kernel) (by decide +kernel)⟩
  | 16, _ => exact ⟨_, rfl, lwT_in (i := 1678) (by decide +kernel) (by decide +kernel)⟩
  | 17, _ => exact ⟨_, rfl, lwT_in (i := 1680) (by decide +kernel) (by decide +kernel)⟩
  | 18, _ => exact ⟨_, rfl, lwT_in (i := 1682) (by decide +kernel) (by decide +kernel)⟩
  | 19, _ => exact ⟨_, rfl, lwT_in (i := 1684) (by decide +kernel) (by decide +kernel)⟩
  | 20, _ => exact ⟨_, rfl, lwT_in (i := 1686) (by decide +kernel) (by decide +kernel)⟩
  | 21, _ => exact ⟨_, rfl, lwT_in (i := 1688) (by decide +kernel) (by decide +kernel)⟩
  | 22, _ => exact ⟨_, rfl, lwT_in (i := 1690) (by decide +kernel) (by decide +kernel)⟩
  | 23, _ => exact ⟨_, rfl, lwT_in (i := 1692) (by decide +kernel) (by decide +kernel)⟩
  | k9 + 24, h9 => exact absurd h9 (by omega)

theorem wf_X6_7 : Cond.fieldLink RX6 7 RX6 "cells" "[I" ∈ lwG := lwT_in (i := 44) (by decide +kernel) (by decide +kernel)


