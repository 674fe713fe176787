theorem uin_X0 : ∀ w ∈ u_ws RX0 TX0 4, w ∈ lwG := by
  refine all_in ?_
  intro k hk
  have hk9 : k < 4 := hk
  match k, hk9 with
  | 0, _ => exact ⟨_, rfl, lwT_in (i := 338) (by decide +kernel) (by decide +kernel)⟩
  | 1, _ => exact ⟨_, rfl, lwT_in (i := 340) (by decide +kernel) (by decide +kernel)⟩
  | 2, _ => exact ⟨_, rfl, lwT_in (i := 342) (by decide +kernel) (by decide +kernel)⟩
  | 3, _ => exact ⟨_, rfl, lwT_in (i := 344) (by decide +kernel) (by decide +kernel)⟩
  | k9 + 4, h9 => exact absurd h9 (by omega)

theorem uin_X2 : ∀ w ∈ u_ws RX2 TX2 6, w ∈ lwG := by
  refine all_in ?_
  intro k hk
  have hk9 : k < 6 := hk
  match k, hk9 with
  | 0, _ => exact ⟨_, rfl, lwT_in (i := 164) (by decide +kernel) (by decide +kernel)⟩
  | 1, _ => exact ⟨_, rfl, lwT_in (i := 166) (by decide +kernel) (by decide +kernel)⟩
  | 2, _ => exact ⟨_, rfl, lwT_in (i := 168) (by decide +kernel) (by decide +kernel)⟩
  | 3, _ => exact ⟨_, rfl, lwT_in (i := 170) (by decide +kernel) (by decide +kernel)⟩
  | 4, _ => exact ⟨_, rfl, lwT_in (i := 172) (by decide +kernel) (by decide +kernel)⟩
  | 5, _ => exact ⟨_, rfl, lwT_in (i := 174) (by decide +kernel) (by decide +kernel)⟩
  | k9 + 6, h9 => exact absurd h9 (by omega)

theorem uin_X3 : ∀ w ∈ u_ws RX3 TX3 14, w ∈ lwG := by
  refine all_in ?_
  intro k hk
  have hk9 : k < 14 := hk
  match k, hk9 with
  | 0, _ => exact ⟨_, rfl, lwT_in (i := 269) (by decide +kernel) (by decide +kernel)⟩
  | 1, _ => exact ⟨_, rfl, lwT_in (i := 270) (by decide +kernel) (by decide +kernel)⟩
  | 2, _ => exact ⟨_, rfl, lwT_in (i := 271) (by decide +kernel) (by decide +kernel)⟩
  | 3, _ => exact ⟨_, rfl, lwT_in (i := 272) (by decide +kernel) (by decide +kernel)⟩
  | 4, _ => exact ⟨_, rfl, lwT_in (i := 273) (by decide +kernel) (by decide +kernel)⟩
  | 5, _ => exact ⟨_, rfl, lwT_in (i := 274) (by decide +kernel) (by decide +kernel)⟩
  | 6, _ => exact ⟨_, rfl, lwT_in (i := 275) (by decide +kernel) (by decide +kernel)⟩
  | 7, _ => exact ⟨_, rfl, lwT_in (i := 276) (by decide +kernel) (by decide +kernel)⟩
  | 8, _ => exact ⟨_, rfl, lwT_in (i := 277) (by decide +kernel) (by decide +kernel)⟩
  | 9, _ => exact ⟨_, rfl, lwT_in (i := 278) (by decide +kernel) (by decide +kernel)⟩
  | 10, _ => exact ⟨_, rfl, lwT_in (i := 279) (by decide +kernel) (by decide +kernel)⟩
  | 11, _ => exact ⟨_, rfl, lwT_in (i := 280) (by decide +kernel) (by decide +kernel)⟩
  | 12, _ => exact ⟨_, rfl, lwT_in (i := 281) (by decide +kernel) (by decide +kernel)⟩
  | 13, _ => exact ⟨_, rfl, lwT_in (i := 267) (by decide +kernel) (by decide +kernel)⟩
  | k9 + 14, h9 => exact absurd h9 (by omega)

theorem uin_X4 : ∀ w ∈ u_ws RX4 TX4 7, w ∈ lwG := by
  refine all_in ?_
  intro k hk
  have hk9 : k < 7 := hk
  match k, hk9 with
  | 0, _ => exact ⟨_, rfl, lwT_in (i := 307) (by decide +kernel) (by decide +kernel)⟩
  | 1, _ => exact ⟨_, rfl, lwT_in (i := 309) (by decide +kernel) (by decide +kernel)⟩
  | 2, _ => exact ⟨_, rfl, lwT_in (i := 311) (by decide +kernel) (by decide +kernel)⟩
  | 3, _ => exact ⟨_, rfl, lwT_in (i := 313) (by decide +kernel) (by decide +kernel)⟩
  | 4, _ => exact ⟨_, rfl, lwT_in (i := 315) (by decide +kernel) (by decide +kernel)⟩
  | 5, _ => exact ⟨_, rfl, lwT_in (i := 317) (by decide +kernel) (by decide +kernel)⟩
  | 6, _ => exact ⟨_, rfl, lwT_in (i := 319) (by decide +kernel) (by decide +kernel)⟩
  | k9 + 7, h9 => exact absurd h9 (by omega)

theorem uin_X5 : ∀ w ∈ u_ws RX5 TX5 3, w ∈ lwG := by
  refine all_in ?_
  intro k hk
  have hk9 : k < 3 := hk
  match k, hk9 with
  | 0, _ => exact ⟨_, rfl, lwT_in (i := 358) (by decide +kernel) (by decide +kernel)⟩
  | 1, _ => exact ⟨_, rfl, lwT_in (i := 360) (by decide +kernel) (by decide +kernel)⟩
  | 2, _ => exact ⟨_, rfl, lwT_in (i := 362) (by decide +kernel) (by decide +kernel)⟩
  | k9 + 3, h9 => exact absurd h9 (by omega)

theorem uin_X6 : ∀ w ∈ u_ws RX6 TX6 1, w ∈ lwG := by
  refine all_in ?_
  intro k hk
  have hk9 : k < 1 := hk
  match k, hk9 with
  | 0, _ => exact ⟨_, rfl, lwT_in (i := 45) (by decide +kernel) (by decide +kernel)⟩
  | k9 + 1, h9 => exact absurd h9 (by omega)

theorem uin_X8 : ∀ w ∈ u_ws RX8 TX8 5, w ∈ lwG := by
  refine all_in ?_
  intro k hk
  have hk9 : k < 5 := hk
  match k, hk9 with
  | 0, _ => exact ⟨_, rfl, lwT_in (i := 378) (by decide +kernel) (by decide +kernel)⟩
  | 1, _ => exact ⟨_, rfl, lwT_in (i := 380) (by decide +kernel) (by decide +kernel)⟩
  | 2, _ => exact ⟨_, rfl, lwT_in (i := 382) (by decide +kernel) (by decide +kernel)⟩
  | 3, _ => exact ⟨_, rfl, lwT_in (i := 384) (by decide +kernel) (by decide +kernel)⟩
  | 4, _ => exact ⟨_, rfl, lwT_in (i := 386) (by decide +kernel) (by decide +kernel)⟩
  | k9 + 5, h9 => exact absurd h9 (by omega)

theorem uin_X9 : ∀ w ∈ u_ws RX9 TX9 20, w ∈ lwG := by
  refine all_in ?_
  intro k hk
  have hk9 : k < 20 := hk
  match k, hk9 with
  | 0, _ => exact ⟨_, rfl, lwT_in (i := 108) (by decide +kernel) (by decide +kernel)⟩
  | 1, _ => exact ⟨_, rfl, lwT_in (i := 110) (by decide +kernel) (by decide +kernel)⟩
  | 2, _ => exact ⟨_, rfl, lwT_in (i := 112) (by decide +kernel) (by decide +kernel)⟩
  | 3, _ => exact ⟨_, rfl, lwT_in (i := 114) (by decide +kernel) (by decide +kernel)⟩
  | 4, _ => exact ⟨_, rfl, lwT_in (i := 116) (by decide +kernel) (by decide +kernel)⟩
  | 5, _ => exact ⟨_, rfl, lwT_in (i := 118) (by decide +kernel) (by decide +kernel)⟩
  | 6, _ => exact ⟨_, rfl, lwT_in (i := 120) (by decide +kernel) (by decide +kernel)⟩
  | 7, _ => exact ⟨_, rfl, lwT_in (i := 122) (by decide +kernel) (by decide +kernel)⟩
  | 8, _ => exact ⟨_, rfl, lwT_in (i := 124) (by decide +kernel) (by decide +kernel)⟩
  | 9, _ => exact ⟨_, rfl, lwT_in (i := 126) (by decide +kernel) (by decide +kernel)⟩
  | 10, _ => exact ⟨_, rfl, lwT_in (i := 128) (by decide +kernel) (by decide +kernel)⟩
  | 11, _ => exact ⟨_, rfl, lwT_in (i := 130) (by decide +kernel) (by decide +kernel)⟩
  | 12, _ => exact ⟨_, rfl, lwT_in (i := 132) (by decide +kernel) (by decide +kernel)⟩
  | 13, _ => exact ⟨_, rfl, lwT_in (i := 134) (by decide +kernel) (by decide +kernel)⟩
  | 14, _ => exact ⟨_, rfl, lwT_in (i := 136) (by decide +kernel) (by decide +kernel)⟩
  | 15, _ => exact ⟨_, rfl, lwT_in (i := 138) (by decide +kernel) (by decide +kernel)⟩
  | 16, _ => exact ⟨_, rfl, lwT_in (i := 140) (by decide +kernel) (by decide +kernel)⟩
  | 17, _ => exact ⟨_, rfl, lwT_in (i := 142) (by decide +kernel) (by decide +kernel)⟩
  | 18, _ => exact ⟨_, rfl, lwT_in (i := 144) (by decide +kernel) (by decide +kernel)⟩
  | 19, _ => exact ⟨_, rfl, lwT_in (i := 146) (by decide +kernel) (by decide +kernel)⟩
  | k9 + 20, h9 => exact absurd h9 (by omega)

theorem uin_X10 : ∀ w ∈ u_ws RX10 TX10 14, w ∈ lwG := by
  refine all_in ?_
  intro k hk
  have hk9 : k < 14 := hk
  match k, hk9 with
  | 0, _ => exact ⟨_, rfl, lwT_in (i := 230) (by decide +kernel) (by decide +kernel)⟩
  | 1, _ => exact ⟨_, rfl, lwT_in (i := 232) (by decide +kernel) (by decide +kernel)⟩
  | 2, _ => exact ⟨_, rfl, lwT_in (i := 234) (by decide +kernel) (by decide +kernel)⟩
  | 3, _ => exact ⟨_, rfl, lwT_in (i := 236) (by decide +kernel) (by decide +kernel)⟩
  | 4, _ => exact ⟨_, rfl, lwT_in (i := 238) (by decide +kernel) (by decide +kernel)⟩
  | 5, _ => exact ⟨_, rfl, lwT_in (i := 240) (by decide +kernel) (by decide +kernel)⟩
  | 6, _ => exact ⟨_, rfl, lwT_in (i := 242) (by decide +kernel) (by decide +kernel)⟩
  | 7, _ => exact ⟨_, rfl, lwT_in (i := 244) (by decide +kernel) (by decide +kernel)⟩
  | 8, _ => exact ⟨_, rfl, lwT_in (i := 246) (by decide +kernel) (by decide +kernel)⟩
  | 9, _ => exact ⟨_, rfl, lwT_in (i := 248) (by decide +kernel) (by decide +kernel)⟩
  | 10, _ => exact ⟨_, rfl, lwT_in (i := 250) (by decide +kernel) (by decide +kernel)⟩
  | 11, _ => exact ⟨_, rfl, lwT_in (i := 252) (by decide +kernel) (by decide +kernel)⟩
  | 12, _ => exact ⟨_, rfl, lwT_in (i := 254) (by decide +kernel) (by decide +kernel)⟩
  | 13, _ => exact ⟨_, rfl, lwT_in (i := 228) (by decide +kernel) (by decide +kernel)⟩
  | k9 + 14, h9 => exact absurd h9 (by omega)

theorem uin_X11 : ∀ w ∈ u_ws RX11 TX11 17, w ∈ lwG := by
  refine all_in ?_
  intro k hk
  have hk9 : k < 17 := hk
  match k, hk9 with
  | 0, _ => exact ⟨_, rfl, lwT_in (i := 406) (by decide +kernel) (by decide +kernel)⟩
  | 1, _ => exact ⟨_, rfl, lwT_in (i := 408) (by decide +kernel) (by decide +kernel)⟩
  | 2, _ => exact ⟨_, rfl, lwT_in (i := 410) (by decide +kernel) (by decide +kernel)⟩
  | 3, _ => exact ⟨_, rfl, lwT_in (i := 412) (by decide +kernel) (by decide +kernel)⟩
  | 4, _ => exact ⟨_, rfl, lwT_in (i := 414) (by decide +kernel) (by decide +kernel)⟩
  | 5, _ => exact ⟨_, rfl, lwT_in (i := 416) (by decide +kernel) (by decide +kernel)⟩
  | 6, _ => exact ⟨_, rfl, lwT_in (i := 418) (by decide +kernel) (by decide +kernel)⟩
  | 7, _ => exact ⟨_, rfl, lwT_in (i := 420) (by decide +kernel) (by decide +kernel)⟩
  | 8, _ => exact ⟨_, rfl, lwT_in (i := 422) (by decide +kernel) (by decide +kernel)⟩
  | 9, _ => exact ⟨_, rfl, lwT_in (i := 424) (by decide +kernel) (by decide +kernel)⟩
  | 10, _ => exact ⟨_, rfl, lwT_in (i := 426) (by decide +kernel) (by decide +kernel)⟩
  | 11, _ => exact ⟨_, rfl, lwT_in (i := 428) (by decide +kernel) (by decide +kernel)⟩
  | 12, _ => exact ⟨_, rfl, lwT_in (i := 430) (by decide +kernel) (by decide +kernel)⟩
  | 13, _ => exact ⟨_, rfl, lwT_in (i := 432) (by decide +kernel) (by decide +kernel)⟩
  | 14, _ => exact ⟨_, rfl, lwT_in (i := 434) (by decide +kernel) (by decide +kernel)⟩
  | 15, _ => exact ⟨_, rfl, lwT_in (i := 436) (by decide +kernel) (by decide +kernel)⟩
  | 16, _ => exact ⟨_, rfl, lwT_in (i := 438) (by decide +kernel) (by decide +kernel)⟩
  | k9 + 17, h9 => exact absurd h9 (by omega)

theorem uin_X12 : ∀ w ∈ u_ws RX12 TX12 24, w ∈ lwG := by
  refine all_in ?_
  intro k hk
  have hk9 : k < 24 := hk
  match k, hk9 with
  | 0, _ => exact ⟨_, rfl, lwT_in (i := 1646) (by decide +kernel) (by decide +kernel)⟩
  | 1, _ => exact ⟨_, rfl, lwT_in (i := 1648) (by decide +kernel) (by decide +kernel)⟩
  | 2, _ => exact ⟨_, rfl, lwT_in (i := 1650) (by decide +kernel) (by decide +kernel)⟩
  | 3, _ => exact ⟨_, rfl, lwT_in (i := 1652) (by decide +kernel) (by decide +kernel)⟩
  | 4, _ => exact ⟨_, rfl, lwT_in (i := 1654) (by decide +kernel) (by decide +kernel)⟩
  | 5, _ => exact ⟨_, rfl, lwT_in (i := 1656) (by decide +kernel) (by decide +kernel)⟩
  | 6, _ => exact ⟨_, rfl, lwT_in (i := 1658) (by decide +kernel) (by decide +kernel)⟩
  | 7, _ => exact ⟨_, rfl, lwT_in (i := 1660) (by decide +kernel) (by decide +kernel)⟩
  | 8, _ => exact ⟨_, rfl, lwT_in (i := 1662) (by decide +kernel) (by decide +kernel)⟩
  | 9, _ => exact ⟨_, rfl, lwT_in (i := 1664) (by decide +kernel) (by decide +kernel)⟩
  | 10, _ => exact ⟨_, rfl, lwT_in (i := 1666) (by decide +kernel) (by decide +kernel)⟩
  | 11, _ => exact ⟨_, rfl, lwT_in (i := 1668) (by decide +kernel) (by decide +kernel)⟩
  | 12, _ => exact ⟨_, rfl, lwT_in (i := 1670) (by decide +kernel) (by decide +kernel)⟩
  | 13, _ => exact ⟨_, rfl, lwT_in (i := 1672) (by decide +kernel) (by decide +kernel)⟩
  | 14, _ => exact ⟨_, rfl, lwT_in (i := 1674) (by decide +kernel) (by decide +kernel)⟩
  | 15, _ => exact ⟨_, rfl, lwT_in (i := 1676) (by decide +kernel) (by decide +kernel)⟩
  | 16, _ => exact ⟨_, rfl, lwT_in (i := 1678) (by decide +kernel) (by decide +kernel)⟩
  | 17, _ => exact ⟨_, rfl, lwT_in (i := 1680) (by decide +kernel) (by decide +kernel)⟩
  | 18, _ => exact ⟨_, rfl, lwT_in (i := 1682) (by decide +kernel) (by decide +kernel)⟩
  | 19, _ => exact ⟨_, rfl, lwT_in (i := 1684) (by decide +kernel) (by decide +kernel)⟩
  | 20, _ => exact ⟨_, rfl, lwT_in (i := 1686) (by decide +kernel) (by decide +kernel)⟩
  | 21, _ => exact ⟨_, rfl, lwT_in (i := 1688) (by decide +kernel) (by decide +kernel)⟩
  | 22, _ => exact ⟨_, rfl, lwT_in (i := 1690) (by decide +kernel) (by decide +kernel)⟩
  | 23, _ => exact ⟨_, rfl, lwT_in (i := 1692) (by decide +kernel) (by decide +kernel)⟩
  | k9 + 24, h9 => exact absurd h9 (by omega)

theorem sr_X12_131 {Γ : Gm} {s0 : State} (h : Gst Γ s0) : vk_R RX12 131 "happy" (sad Γ 16) s0 := h.2.1.1 ("RivalWedsModel", 131, "happy", 16) (List.mem_of_getElem? (i := 6) (by decide +kernel))
theorem sr_X12_147 {Γ : Gm} {s0 : State} (h : Gst Γ s0) : vk_R RX12 147 "person" (sad Γ 0) s0 := h.2.1.1 ("RivalWedsModel", 147, "person", 0) (List.mem_of_getElem? (i := 14) (by decide +kernel))
theorem sr_X12_152 {Γ : Gm} {s0 : State} (h : Gst Γ s0) : vk_R RX12 152 "likes" (sad Γ 1) s0 := h.2.1.1 ("RivalWedsModel", 152, "likes", 1) (List.mem_of_getElem? (i := 15) (by decide +kernel))
theorem sr_X12_157 {Γ : Gm} {s0 : State} (h : Gst Γ s0) : vk_R RX12 157 "asked" (sad Γ 2) s0 := h.2.1.1 ("RivalWedsModel", 157, "asked", 2) (List.mem_of_getElem? (i := 16) (by decide +kernel))
theorem sr_X12_159 {Γ : Gm} {s0 : State} (h : Gst Γ s0) : vk_R RX12 159 "reinsured" (sad Γ 3) s0 := h.2.1.1 ("RivalWedsModel", 159, "reinsured", 3) (List.mem_of_getElem? (i := 17) (by decide +kernel))
theorem sr_X12_161 {Γ : Gm} {s0 : State} (h : Gst Γ s0) : vk_R RX12 161 "wed" (sad Γ 4) s0 := h.2.1.1 ("RivalWedsModel", 161, "wed", 4) (List.mem_of_getElem? (i := 18) (by decide +kernel))
theorem sr_X12_166 {Γ : Gm} {s0 : State} (h : Gst Γ s0) : vk_R RX12 166 "bar" (sad Γ 5) s0 := h.2.1.1 ("RivalWedsModel", 166, "bar", 5) (List.mem_of_getElem? (i := 19) (by decide +kernel))
theorem sr_X12_171 {Γ : Gm} {s0 : State} (h : Gst Γ s0) : vk_R RX12 171 "premium" (sad Γ 6) s0 := h.2.1.1 ("RivalWedsModel", 171, "premium", 6) (List.mem_of_getElem? (i := 20) (by decide +kernel))
theorem sr_X12_173 {Γ : Gm} {s0 : State} (h : Gst Γ s0) : vk_R RX12 173 "pays" (sad Γ 7) s0 := h.2.1.1 ("RivalWedsModel", 173, "pays", 7) (List.mem_of_getElem? (i := 21) (by decide +kernel))
theorem sr_X12_204 {Γ : Gm} {s0 : State} (h : Gst Γ s0) : vk_R RX12 204 "months" (sad Γ 17) s0 := h.2.1.1 ("RivalWedsModel", 204, "months", 17) (List.mem_of_getElem? (i := 7) (by decide +kernel))
theorem sr_X12_206 {Γ : Gm} {s0 : State} (h : Gst Γ s0) : vk_R RX12 206 "quarrel" (sad Γ 18) s0 := h.2.1.1 ("RivalWedsModel", 206, "quarrel", 18) (List.mem_of_getElem? (i := 8) (by decide +kernel))
theorem sr_X12_208 {Γ : Gm} {s0 : State} (h : Gst Γ s0) : vk_R RX12 208 "insurers" (sad Γ 19) s0 := h.2.1.1 ("RivalWedsModel", 208, "insurers", 19) (List.mem_of_getElem? (i := 9) (by decide +kernel))
theorem sr_X12_210 {Γ : Gm} {s0 : State} (h : Gst Γ s0) : vk_R RX12 210 "liking" (sad Γ 20) s0 := h.2.1.1 ("RivalWedsModel", 210, "liking", 20) (List.mem_of_getElem? (i := 10) (by decide +kernel))
theorem sr_X12_212 {Γ : Gm} {s0 : State} (h : Gst Γ s0) : vk_R RX12 212 "month" (sad Γ 21) s0 := h.2.1.1 ("RivalWedsModel", 212, "month", 21) (List.mem_of_getElem? (i := 11) (by decide +kernel))
theorem sr_X12_217 {Γ : Gm} {s0 : State} (h : Gst Γ s0) : vk_R RX12 217 "insured" (sad Γ 14) s0 := h.2.1.1 ("RivalWedsModel", 217, "insured", 14) (List.mem_of_getElem? (i := 4) (by decide +kernel))
theorem sr_X12_219 {Γ : Gm} {s0 : State} (h : Gst Γ s0) : vk_R RX12 219 "rich" (sad Γ 15) s0 := h.2.1.1 ("RivalWedsModel", 219, "rich", 15) (List.mem_of_getElem? (i := 5) (by decide +kernel))
theorem sr_X12_228 {Γ : Gm} {s0 : State} (h : Gst Γ s0) : vk_R RX12 228 "not" (sad Γ 13) s0 := h.2.1.1 ("RivalWedsModel", 228, "not", 13) (List.mem_of_getElem? (i := 3) (by decide +kernel))
theorem sr_X12_240 {Γ : Gm} {s0 : State} (h : Gst Γ s0) : vk_R RX12 240 "and" (sad Γ 12) s0 := h.2.1.1 ("RivalWedsModel", 240, "and", 12) (List.mem_of_getElem? (i := 12) (by decide +kernel))
theorem sr_X12_245 {Γ : Gm} {s0 : State} (h : Gst Γ s0) : vk_R RX12 245 "or" (sad Γ 11) s0 := h.2.1.1 ("RivalWedsModel", 245, "or", 11) (List.mem_of_getElem? (i := 13) (by decide +kernel))
theorem sr_X12_247 {Γ : Gm} {s0 : State} (h : Gst Γ s0) : vk_R RX12 247 "lift" (sad Γ 8) s0 := h.2.1.1 ("RivalWedsModel", 247, "lift", 8) (List.mem_of_getElem? (i := 0) (by decide +kernel))
theorem sr_X12_249 {Γ : Gm} {s0 : State} (h : Gst Γ s0) : vk_R RX12 249 "sour" (sad Γ 9) s0 := h.2.1.1 ("RivalWedsModel", 249, "sour", 9) (List.mem_of_getElem? (i := 1) (by decide +kernel))
theorem sr_X12_251 {Γ : Gm} {s0 : State} (h : Gst Γ s0) : vk_R RX12 251 "if" (sad Γ 10) s0 := h.2.1.1 ("RivalWedsModel", 251, "if", 10) (List.mem_of_getElem? (i := 2) (by decide +kernel))
theorem wAi : Cond.initialized "java/lang/System" ∈ lwG := lwT_in (i := 16) (by decide +kernel) (by decide +kernel)
theorem wAl_X2_51 : Cond.methodLink RX2 51 arraycopyName ∈ lwG := lwT_in (i := 652) (by decide +kernel) (by decide +kernel)
theorem wAl_X6_19 : Cond.methodLink RX6 19 arraycopyName ∈ lwG := lwT_in (i := 484) (by decide +kernel) (by decide +kernel)
theorem wAn : Cond.native arraycopyName ∈ lwG := lwT_in (i := 486) (by decide +kernel) (by decide +kernel)
theorem wAs : Cond.static arraycopyName ∈ lwG := lwT_in (i := 485) (by decide +kernel) (by decide +kernel)
theorem wMc_max : Cond.code Lib.Math.max.name Lib.Math.max.code 2 (some .int) ∈ lwG := lwT_in (i := 620) (by decide +kernel) (by decide +kernel)
theorem wMc_min : Cond.code Lib.Math.min.name Lib.Math.min.code 2 (some .int) ∈ lwG := lwT_in (i := 483) (by decide +kernel) (by decide +kernel)
theorem wMi : Cond.initialized "java/lang/Math" ∈ lwG := lwT_in (i := 15) (by decide +kernel) (by decide +kernel)
theorem wMl_X0_121 : Cond.methodLink RX0 121 Lib.Math.max.name ∈ lwG := lwT_in (i := 1403) (by decide +kernel) (by decide +kernel)
theorem wMl_X0_86 : Cond.methodLink RX0 86 Lib.Math.min.name ∈ lwG := lwT_in (i := 1461) (by decide +kernel) (by decide +kernel)
theorem wMl_X11_360 : Cond.methodLink RX11 360 Lib.Math.max.name ∈ lwG := lwT_in (i := 1244) (by decide +kernel) (by decide +kernel)
theorem wMl_X11_365 : Cond.methodLink RX11 365 Lib.Math.min.name ∈ lwG := lwT_in (i := 1243) (by decide +kernel) (by decide +kernel)
theorem wMl_X2_45 : Cond.methodLink RX2 45 Lib.Math.min.name ∈ lwG := lwT_in (i := 651) (by decide +kernel) (by decide +kernel)
theorem wMl_X4_48 : Cond.methodLink RX4 48 Lib.Math.min.name ∈ lwG := lwT_in (i := 1368) (by decide +kernel) (by decide +kernel)
theorem wMl_X5_117 : Cond.methodLink RX5 117 Lib.Math.max.name ∈ lwG := lwT_in (i := 618) (by decide +kernel) (by decide +kernel)
theorem wMl_X6_13 : Cond.methodLink RX6 13 Lib.Math.min.name ∈ lwG := lwT_in (i := 481) (by decide +kernel) (by decide +kernel)
theorem wMl_X8_64 : Cond.methodLink RX8 64 Lib.Math.max.name ∈ lwG := lwT_in (i := 1563) (by decide +kernel) (by decide +kernel)
theorem wMl_X9_172 : Cond.methodLink RX9 172 Lib.Math.min.name ∈ lwG := lwT_in (i := 545) (by decide +kernel) (by decide +kernel)
theorem wMs_max : Cond.static Lib.Math.max.name ∈ lwG := lwT_in (i := 619) (by decide +kernel) (by decide +kernel)
theorem wMs_min : Cond.static Lib.Math.min.name ∈ lwG := lwT_in (i := 482) (by decide +kernel) (by decide +kernel)
theorem wc_J0_charAt_5068e : Cond.code yJ0_charAt_5068e cJ0_charAt_5068e 2 (some .char) ∈ lwG := lwT_in (i := 742) (by decide +kernel) (by decide +kernel)
theorem wc_J0_checkIndex_df160 : Cond.code yJ0_checkIndex_df160 cJ0_checkIndex_df160 2 none ∈ lwG := lwT_in (i := 752) (by decide +kernel) (by decide +kernel)
theorem wc_J0_coder_7d493 : Cond.code yJ0_coder_7d493 cJ0_coder_7d493 1 (some .byte) ∈ lwG := lwT_in (i := 736) (by decide +kernel) (by decide +kernel)
theorem wc_J0_isLatin1_aae02 : Cond.code yJ0_isLatin1_aae02 cJ0_isLatin1_aae02 1 (some .boolean) ∈ lwG := lwT_in (i := 746) (by decide +kernel) (by decide +kernel)
theorem wc_J0_length_8abf5 : Cond.code yJ0_length_8abf5 cJ0_length_8abf5 1 (some .int) ∈ lwG := lwT_in (i := 732) (by decide +kernel) (by decide +kernel)
theorem wc_J1_charAt_3b067 : Cond.code yJ1_charAt_3b067 cJ1_charAt_3b067 2 (some .char) ∈ lwG := lwT_in (i := 749) (by decide +kernel) (by decide +kernel)
theorem wc_J3_checkIndex_8e157 : Cond.code yJ3_checkIndex_8e157 cJ3_checkIndex_8e157 3 (some .int) ∈ lwG := lwT_in (i := 757) (by decide +kernel) (by decide +kernel)
theorem wc_J6_bitCount_0f7a4 : Cond.code yJ6_bitCount_0f7a4 cJ6_bitCount_0f7a4 1 (some .int) ∈ lwG := lwT_in (i := 525) (by decide +kernel) (by decide +kernel)
theorem wc_X0_addGifts : Cond.code yX0_addGifts cX0_addGifts 3 none ∈ lwG := lwT_in (i := 1459) (by decide +kernel) (by decide +kernel)
theorem wc_X0_claimAll : Cond.code yX0_claimAll cX0_claimAll 2 none ∈ lwG := lwT_in (i := 490) (by decide +kernel) (by decide +kernel)
theorem wc_X0_claimQuarrels : Cond.code yX0_claimQuarrels cX0_claimQuarrels 6 (some .int) ∈ lwG := lwT_in (i := 1390) (by decide +kernel) (by decide +kernel)
theorem wc_X0_fallen : Cond.code yX0_fallen cX0_fallen 2 (some .int) ∈ lwG := lwT_in (i := 468) (by decide +kernel) (by decide +kernel)
theorem wc_X0_fewestGifts : Cond.code yX0_fewestGifts cX0_fewestGifts 8 (some .int) ∈ lwG := lwT_in (i := 1451) (by decide +kernel) (by decide +kernel)
theorem wc_X0_firstClaim : Cond.code yX0_firstClaim cX0_firstClaim 6 (some .int) ∈ lwG := lwT_in (i := 1379) (by decide +kernel) (by decide +kernel)
theorem wc_X0_happyAhead : Cond.code yX0_happyAhead cX0_happyAhead 7 (some .int) ∈ lwG := lwT_in (i := 1358) (by decide +kernel) (by decide +kernel)
theorem wc_X0_happyNext : Cond.code yX0_happyNext cX0_happyNext 5 (some .int) ∈ lwG := lwT_in (i := 1346) (by decide +kernel) (by decide +kernel)
theorem wc_X0_leastWealth : Cond.code yX0_leastWealth cX0_leastWealth 7 (some .int) ∈ lwG := lwT_in (i := 1414) (by decide +kernel) (by decide +kernel)
theorem wc_X0_lossOf : Cond.code yX0_lossOf cX0_lossOf 3 (some .int) ∈ lwG := lwT_in (i := 1401) (by decide +kernel) (by decide +kernel)
theorem wc_X0_passCosts : Cond.code yX0_passCosts cX0_passCosts 5 none ∈ lwG := lwT_in (i := 1465) (by decide +kernel) (by decide +kernel)
theorem wc_X0_ruinedInTrial : Cond.code yX0_ruinedInTrial cX0_ruinedInTrial 1 (some .int) ∈ lwG := lwT_in (i := 1579) (by decide +kernel) (by decide +kernel)
theorem wc_X0_tryMonths : Cond.code yX0_tryMonths cX0_tryMonths 6 (some .int) ∈ lwG := lwT_in (i := 1574) (by decide +kernel) (by decide +kernel)
theorem wc_X0_turnsNow : Cond.code yX0_turnsNow cX0_turnsNow 4 (some .int) ∈ lwG := lwT_in (i := 1155) (by decide +kernel) (by decide +kernel)
theorem wc_X10_readsLikes : Cond.code yX10_readsLikes cX10_readsLikes 3 (some .boolean) ∈ lwG := lwT_in (i := 910) (by decide +kernel) (by decide +kernel)
theorem wc_X10_readsLine : Cond.code yX10_readsLine cX10_readsLine 1 (some .boolean) ∈ lwG := lwT_in (i := 885) (by decide +kernel) (by decide +kernel)
theorem wc_X10_readsPerson : Cond.code yX10_readsPerson cX10_readsPerson 2 (some .boolean) ∈ lwG := lwT_in (i := 891) (by decide +kernel) (by decide +kernel)
theorem wc_X10_readsSetting : Cond.code yX10_readsSetting cX10_readsSetting 3 (some .boolean) ∈ lwG := lwT_in (i := 957) (by decide +kernel) (by decide +kernel)
theorem wc_X10_readsTwo : Cond.code yX10_readsTwo cX10_readsTwo 4 (some .boolean) ∈ lwG := lwT_in (i := 933) (by decide +kernel) (by decide +kernel)
theorem wc_X10_readsWed : Cond.code yX10_readsWed cX10_readsWed 4 (some .boolean) ∈ lwG := lwT_in (i := 944) (by decide +kernel) (by decide +kernel)
theorem wc_X10_takeSomebody : Cond.code yX10_takeSomebody cX10_takeSomebody 5 (some .int) ∈ lwG := lwT_in (i := 914) (by decide +kernel) (by decide +kernel)
theorem wc_X11_checkGoesOn : Cond.code yX11_checkGoesOn cX11_checkGoesOn 2 none ∈ lwG := lwT_in (i := 1231) (by decide +kernel) (by decide +kernel)
theorem wc_X11_checkInsurer : Cond.code yX11_checkInsurer cX11_checkInsurer 3 none ∈ lwG := lwT_in (i := 1227) (by decide +kernel) (by decide +kernel)
theorem wc_X11_checkMatch : Cond.code yX11_checkMatch cX11_checkMatch 2 none ∈ lwG := lwT_in (i := 1146) (by decide +kernel) (by decide +kernel)
theorem wc_X11_checkNumber : Cond.code yX11_checkNumber cX11_checkNumber 4 none ∈ lwG := lwT_in (i := 1280) (by decide +kernel) (by decide +kernel)
theorem wc_X11_checkPerson : Cond.code yX11_checkPerson cX11_checkPerson 2 none ∈ lwG := lwT_in (i := 1080) (by decide +kernel) (by decide +kernel)
theorem wc_X11_checkQuarrel : Cond.code yX11_checkQuarrel cX11_checkQuarrel 2 none ∈ lwG := lwT_in (i := 1342) (by decide +kernel) (by decide +kernel)
theorem wc_X11_checkTwo : Cond.code yX11_checkTwo cX11_checkTwo 3 none ∈ lwG := lwT_in (i := 1133) (by decide +kernel) (by decide +kernel)
theorem wc_X11_contains : Cond.code yX11_contains cX11_contains 2 (some .boolean) ∈ lwG := lwT_in (i := 522) (by decide +kernel) (by decide +kernel)
theorem wc_X11_feedNumber : Cond.code yX11_feedNumber cX11_feedNumber 3 none ∈ lwG := lwT_in (i := 448) (by decide +kernel) (by decide +kernel)
theorem wc_X11_forgetActs : Cond.code yX11_forgetActs cX11_forgetActs 1 none ∈ lwG := lwT_in (i := 660) (by decide +kernel) (by decide +kernel)
theorem wc_X11_happyWithin : Cond.code yX11_happyWithin cX11_happyWithin 1 (some .int) ∈ lwG := lwT_in (i := 1242) (by decide +kernel) (by decide +kernel)
theorem wc_X11_readTold : Cond.code yX11_readTold cX11_readTold 1 none ∈ lwG := lwT_in (i := 1524) (by decide +kernel) (by decide +kernel)
theorem wc_X11_remember : Cond.code yX11_remember cX11_remember 2 none ∈ lwG := lwT_in (i := 1188) (by decide +kernel) (by decide +kernel)
theorem wc_X11_rememberedTown : Cond.code yX11_rememberedTown cX11_rememberedTown 3 (some (.object "RivalWeds$Town")) ∈ lwG := lwT_in (i := 640) (by decide +kernel) (by decide +kernel)
theorem wc_X11_useTapeUp : Cond.code yX11_useTapeUp cX11_useTapeUp 2 (some .int) ∈ lwG := lwT_in (i := 690) (by decide +kernel) (by decide +kernel)
theorem wc_X12_after : Cond.code yX12_after cX12_after 4 (some .int) ∈ lwG := lwT_in (i := 1851) (by decide +kernel) (by decide +kernel)
theorem wc_X12_askersOf : Cond.code yX12_askersOf cX12_askersOf 4 (some .int) ∈ lwG := lwT_in (i := 1890) (by decide +kernel) (by decide +kernel)
theorem wc_X12_atom : Cond.code yX12_atom cX12_atom 4 (some .boolean) ∈ lwG := lwT_in (i := 1771) (by decide +kernel) (by decide +kernel)
theorem wc_X12_badMatch : Cond.code yX12_badMatch cX12_badMatch 5 (some .int) ∈ lwG := lwT_in (i := 2027) (by decide +kernel) (by decide +kernel)
theorem wc_X12_begins : Cond.code yX12_begins cX12_begins 1 none ∈ lwG := lwT_in (i := 1722) (by decide +kernel) (by decide +kernel)
theorem wc_X12_bits : Cond.code yX12_bits cX12_bits 3 (some .int) ∈ lwG := lwT_in (i := 1928) (by decide +kernel) (by decide +kernel)
theorem wc_X12_by : Cond.code yX12_by cX12_by 4 none ∈ lwG := lwT_in (i := 2087) (by decide +kernel) (by decide +kernel)
theorem wc_X12_claims : Cond.code yX12_claims cX12_claims 5 (some .int) ∈ lwG := lwT_in (i := 1999) (by decide +kernel) (by decide +kernel)
theorem wc_X12_comes : Cond.code yX12_comes cX12_comes 5 none ∈ lwG := lwT_in (i := 1855) (by decide +kernel) (by decide +kernel)
theorem wc_X12_comesBack : Cond.code yX12_comesBack cX12_comesBack 2 none ∈ lwG := lwT_in (i := 1870) (by decide +kernel) (by decide +kernel)
theorem wc_X12_draw : Cond.code yX12_draw cX12_draw 2 (some .int) ∈ lwG := lwT_in (i := 1982) (by decide +kernel) (by decide +kernel)
theorem wc_X12_every : Cond.code yX12_every cX12_every 3 (some .boolean) ∈ lwG := lwT_in (i := 1767) (by decide +kernel) (by decide +kernel)
theorem wc_X12_fallsNow : Cond.code yX12_fallsNow cX12_fallsNow 3 (some .int) ∈ lwG := lwT_in (i := 2051) (by decide +kernel) (by decide +kernel)
theorem wc_X12_fewest : Cond.code yX12_fewest cX12_fewest 6 (some .int) ∈ lwG := lwT_in (i := 2092) (by decide +kernel) (by decide +kernel)
theorem wc_X12_figures : Cond.code yX12_figures cX12_figures 5 (some .int) ∈ lwG := lwT_in (i := 1754) (by decide +kernel) (by decide +kernel)
theorem wc_X12_free : Cond.code yX12_free cX12_free 3 none ∈ lwG := lwT_in (i := 1839) (by decide +kernel) (by decide +kernel)
theorem wc_X12_gets : Cond.code yX12_gets cX12_gets 3 none ∈ lwG := lwT_in (i := 1991) (by decide +kernel) (by decide +kernel)
theorem wc_X12_gives : Cond.code yX12_gives cX12_gives 4 (some .int) ∈ lwG := lwT_in (i := 2007) (by decide +kernel) (by decide +kernel)
theorem wc_X12_goes : Cond.code yX12_goes cX12_goes 6 (some .int) ∈ lwG := lwT_in (i := 1978) (by decide +kernel) (by decide +kernel)
theorem wc_X12_greater : Cond.code yX12_greater cX12_greater 2 (some .int) ∈ lwG := lwT_in (i := 1962) (by decide +kernel) (by decide +kernel)
theorem wc_X12_has : Cond.code yX12_has cX12_has 4 none ∈ lwG := lwT_in (i := 1811) (by decide +kernel) (by decide +kernel)
theorem wc_X12_insurers : Cond.code yX12_insurers cX12_insurers 2 (some .int) ∈ lwG := lwT_in (i := 1921) (by decide +kernel) (by decide +kernel)
theorem wc_X12_insurersOf : Cond.code yX12_insurersOf cX12_insurersOf 5 (some .int) ∈ lwG := lwT_in (i := 1925) (by decide +kernel) (by decide +kernel)
theorem wc_X12_insures : Cond.code yX12_insures cX12_insures 3 (some .boolean) ∈ lwG := lwT_in (i := 1952) (by decide +kernel) (by decide +kernel)
theorem wc_X12_isIn : Cond.code yX12_isIn cX12_isIn 3 (some .boolean) ∈ lwG := lwT_in (i := 1710) (by decide +kernel) (by decide +kernel)
theorem wc_X12_isMatch : Cond.code yX12_isMatch cX12_isMatch 2 (some .boolean) ∈ lwG := lwT_in (i := 1917) (by decide +kernel) (by decide +kernel)
theorem wc_X12_isOf : Cond.code yX12_isOf cX12_isOf 2 (some .boolean) ∈ lwG := lwT_in (i := 1893) (by decide +kernel) (by decide +kernel)
theorem wc_X12_isPerson : Cond.code yX12_isPerson cX12_isPerson 2 (some .boolean) ∈ lwG := lwT_in (i := 1886) (by decide +kernel) (by decide +kernel)
theorem wc_X12_isSign : Cond.code yX12_isSign cX12_isSign 2 (some .boolean) ∈ lwG := lwT_in (i := 1776) (by decide +kernel) (by decide +kernel)
theorem wc_X12_isSteady : Cond.code yX12_isSteady cX12_isSteady 3 (some .boolean) ∈ lwG := lwT_in (i := 2120) (by decide +kernel) (by decide +kernel)
theorem wc_X12_lawLine : Cond.code yX12_lawLine cX12_lawLine 4 none ∈ lwG := lwT_in (i := 1742) (by decide +kernel) (by decide +kernel)
theorem wc_X12_leads : Cond.code yX12_leads cX12_leads 5 (some .boolean) ∈ lwG := lwT_in (i := 2075) (by decide +kernel) (by decide +kernel)
theorem wc_X12_lesser : Cond.code yX12_lesser cX12_lesser 2 (some .int) ∈ lwG := lwT_in (i := 1955) (by decide +kernel) (by decide +kernel)
theorem wc_X12_letter : Cond.code yX12_letter cX12_letter 2 (some .int) ∈ lwG := lwT_in (i := 1734) (by decide +kernel) (by decide +kernel)
theorem wc_X12_likes : Cond.code yX12_likes cX12_likes 3 (some .int) ∈ lwG := lwT_in (i := 1909) (by decide +kernel) (by decide +kernel)
theorem wc_X12_likings : Cond.code yX12_likings cX12_likings 5 none ∈ lwG := lwT_in (i := 1816) (by decide +kernel) (by decide +kernel)
theorem wc_X12_logged : Cond.code yX12_logged cX12_logged 3 (some .int) ∈ lwG := lwT_in (i := 2172) (by decide +kernel) (by decide +kernel)
theorem wc_X12_logs : Cond.code yX12_logs cX12_logs 5 none ∈ lwG := lwT_in (i := 2011) (by decide +kernel) (by decide +kernel)
theorem wc_X12_mayWed : Cond.code yX12_mayWed cX12_mayWed 3 (some .boolean) ∈ lwG := lwT_in (i := 2132) (by decide +kernel) (by decide +kernel)
theorem wc_X12_nextOf : Cond.code yX12_nextOf cX12_nextOf 3 (some .int) ∈ lwG := lwT_in (i := 1995) (by decide +kernel) (by decide +kernel)
theorem wc_X12_of : Cond.code yX12_of cX12_of 3 (some .int) ∈ lwG := lwT_in (i := 1829) (by decide +kernel) (by decide +kernel)
theorem wc_X12_ofAside : Cond.code yX12_ofAside cX12_ofAside 2 (some .int) ∈ lwG := lwT_in (i := 2096) (by decide +kernel) (by decide +kernel)
theorem wc_X12_ofMatch : Cond.code yX12_ofMatch cX12_ofMatch 3 (some .int) ∈ lwG := lwT_in (i := 1847) (by decide +kernel) (by decide +kernel)
theorem wc_X12_other : Cond.code yX12_other cX12_other 4 (some .int) ∈ lwG := lwT_in (i := 1825) (by decide +kernel) (by decide +kernel)
theorem wc_X12_pairsUp : Cond.code yX12_pairsUp cX12_pairsUp 4 none ∈ lwG := lwT_in (i := 2116) (by decide +kernel) (by decide +kernel)
theorem wc_X12_part : Cond.code yX12_part cX12_part 2 (some .int) ∈ lwG := lwT_in (i := 1790) (by decide +kernel) (by decide +kernel)
theorem wc_X12_passes : Cond.code yX12_passes cX12_passes 3 none ∈ lwG := lwT_in (i := 2035) (by decide +kernel) (by decide +kernel)
theorem wc_X12_pays : Cond.code yX12_pays cX12_pays 4 (some .int) ∈ lwG := lwT_in (i := 2003) (by decide +kernel) (by decide +kernel)
theorem wc_X12_personLine : Cond.code yX12_personLine cX12_personLine 5 none ∈ lwG := lwT_in (i := 1807) (by decide +kernel) (by decide +kernel)
theorem wc_X12_place : Cond.code yX12_place cX12_place 1 (some .int) ∈ lwG := lwT_in (i := 1758) (by decide +kernel) (by decide +kernel)
theorem wc_X12_plain : Cond.code yX12_plain cX12_plain 4 (some .boolean) ∈ lwG := lwT_in (i := 1780) (by decide +kernel) (by decide +kernel)
theorem wc_X12_prefers : Cond.code yX12_prefers cX12_prefers 3 (some .boolean) ∈ lwG := lwT_in (i := 2124) (by decide +kernel) (by decide +kernel)
theorem wc_X12_premiums : Cond.code yX12_premiums cX12_premiums 8 none ∈ lwG := lwT_in (i := 1987) (by decide +kernel) (by decide +kernel)
theorem wc_X12_putsAside : Cond.code yX12_putsAside cX12_putsAside 2 none ∈ lwG := lwT_in (i := 1718) (by decide +kernel) (by decide +kernel)
theorem wc_X12_ratherOf : Cond.code yX12_ratherOf cX12_ratherOf 5 (some .int) ∈ lwG := lwT_in (i := 2104) (by decide +kernel) (by decide +kernel)
theorem wc_X12_read : Cond.code yX12_read cX12_read 4 (some .int) ∈ lwG := lwT_in (i := 1726) (by decide +kernel) (by decide +kernel)
theorem wc_X12_remembers : Cond.code yX12_remembers cX12_remembers 2 none ∈ lwG := lwT_in (i := 1940) (by decide +kernel) (by decide +kernel)
theorem wc_X12_ringOf : Cond.code yX12_ringOf cX12_ringOf 4 (some .int) ∈ lwG := lwT_in (i := 2067) (by decide +kernel) (by decide +kernel)
theorem wc_X12_ruinedOnes : Cond.code yX12_ruinedOnes cX12_ruinedOnes 3 (some .int) ∈ lwG := lwT_in (i := 2160) (by decide +kernel) (by decide +kernel)
theorem wc_X12_says : Cond.code yX12_says cX12_says 4 (some .boolean) ∈ lwG := lwT_in (i := 1747) (by decide +kernel) (by decide +kernel)
theorem wc_X12_skip : Cond.code yX12_skip cX12_skip 1 none ∈ lwG := lwT_in (i := 1730) (by decide +kernel) (by decide +kernel)
theorem wc_X12_some : Cond.code yX12_some cX12_some 3 (some .boolean) ∈ lwG := lwT_in (i := 1763) (by decide +kernel) (by decide +kernel)
theorem wc_X12_sum : Cond.code yX12_sum cX12_sum 2 (some .int) ∈ lwG := lwT_in (i := 1786) (by decide +kernel) (by decide +kernel)
theorem wc_X12_tells : Cond.code yX12_tells cX12_tells 4 none ∈ lwG := lwT_in (i := 1864) (by decide +kernel) (by decide +kernel)
theorem wc_X12_told : Cond.code yX12_told cX12_told 4 none ∈ lwG := lwT_in (i := 1859) (by decide +kernel) (by decide +kernel)
theorem wc_X12_told_ : Cond.code yX12_told_ cX12_told_ 8 (some .int) ∈ lwG := lwT_in (i := 2140) (by decide +kernel) (by decide +kernel)
theorem wc_X12_townLine : Cond.code yX12_townLine cX12_townLine 4 none ∈ lwG := lwT_in (i := 1802) (by decide +kernel) (by decide +kernel)
theorem wc_X12_turnsBy : Cond.code yX12_turnsBy cX12_turnsBy 7 (some .int) ∈ lwG := lwT_in (i := 1932) (by decide +kernel) (by decide +kernel)
theorem wc_X12_two : Cond.code yX12_two cX12_two 3 (some .int) ∈ lwG := lwT_in (i := 1905) (by decide +kernel) (by decide +kernel)
theorem wc_X12_wealths : Cond.code yX12_wealths cX12_wealths 3 (some .int) ∈ lwG := lwT_in (i := 1897) (by decide +kernel) (by decide +kernel)
theorem wc_X12_wedLine : Cond.code yX12_wedLine cX12_wedLine 6 none ∈ lwG := lwT_in (i := 1835) (by decide +kernel) (by decide +kernel)
theorem wc_X12_wedOnes : Cond.code yX12_wedOnes cX12_wedOnes 3 (some .int) ∈ lwG := lwT_in (i := 2200) (by decide +kernel) (by decide +kernel)
theorem wc_X12_wedTo : Cond.code yX12_wedTo cX12_wedTo 3 (some .int) ∈ lwG := lwT_in (i := 1843) (by decide +kernel) (by decide +kernel)
theorem wc_X12_who : Cond.code yX12_who cX12_who 1 (some .int) ∈ lwG := lwT_in (i := 1820) (by decide +kernel) (by decide +kernel)
theorem wc_X12_with : Cond.code yX12_with cX12_with 4 (some .int) ∈ lwG := lwT_in (i := 2144) (by decide +kernel) (by decide +kernel)
theorem wc_X12_wrong : Cond.code yX12_wrong cX12_wrong 2 none ∈ lwG := lwT_in (i := 1738) (by decide +kernel) (by decide +kernel)
theorem wc_X1_isSpelt : Cond.code yX1_isSpelt cX1_isSpelt 5 (some .boolean) ∈ lwG := lwT_in (i := 728) (by decide +kernel) (by decide +kernel)
theorem wc_X1_spelt : Cond.code yX1_spelt cX1_spelt 7 (some (.object "RivalWeds$Kind")) ∈ lwG := lwT_in (i := 721) (by decide +kernel) (by decide +kernel)
theorem wc_X2_addCode : Cond.code yX2_addCode cX2_addCode 2 none ∈ lwG := lwT_in (i := 856) (by decide +kernel) (by decide +kernel)
theorem wc_X2_addLine : Cond.code yX2_addLine cX2_addLine 2 none ∈ lwG := lwT_in (i := 881) (by decide +kernel) (by decide +kernel)
theorem wc_X2_clearLines : Cond.code yX2_clearLines cX2_clearLines 1 none ∈ lwG := lwT_in (i := 1063) (by decide +kernel) (by decide +kernel)
theorem wc_X2_copyAll : Cond.code yX2_copyAll cX2_copyAll 2 none ∈ lwG := lwT_in (i := 649) (by decide +kernel) (by decide +kernel)
theorem wc_X2_isMet : Cond.code yX2_isMet cX2_isMet 7 (some .boolean) ∈ lwG := lwT_in (i := 1169) (by decide +kernel) (by decide +kernel)
theorem wc_X2_isPart : Cond.code yX2_isPart cX2_isPart 1 (some .boolean) ∈ lwG := lwT_in (i := 867) (by decide +kernel) (by decide +kernel)
theorem wc_X2_joined : Cond.code yX2_joined cX2_joined 3 (some .int) ∈ lwG := lwT_in (i := 1176) (by decide +kernel) (by decide +kernel)
theorem wc_X2_turnsBy : Cond.code yX2_turnsBy cX2_turnsBy 6 (some .int) ∈ lwG := lwT_in (i := 1164) (by decide +kernel) (by decide +kernel)
theorem wc_X3_readsAll : Cond.code yX3_readsAll cX3_readsAll 3 (some .boolean) ∈ lwG := lwT_in (i := 832) (by decide +kernel) (by decide +kernel)
theorem wc_X3_readsAtom : Cond.code yX3_readsAtom cX3_readsAtom 4 (some .boolean) ∈ lwG := lwT_in (i := 836) (by decide +kernel) (by decide +kernel)
theorem wc_X3_readsEither : Cond.code yX3_readsEither cX3_readsEither 3 (some .boolean) ∈ lwG := lwT_in (i := 828) (by decide +kernel) (by decide +kernel)
theorem wc_X3_readsLine : Cond.code yX3_readsLine cX3_readsLine 3 (some .boolean) ∈ lwG := lwT_in (i := 795) (by decide +kernel) (by decide +kernel)
theorem wc_X3_readsNot : Cond.code yX3_readsNot cX3_readsNot 3 (some .boolean) ∈ lwG := lwT_in (i := 852) (by decide +kernel) (by decide +kernel)
theorem wc_X3_readsSum : Cond.code yX3_readsSum cX3_readsSum 3 (some .boolean) ∈ lwG := lwT_in (i := 864) (by decide +kernel) (by decide +kernel)
theorem wc_X4_happyBehindMonth : Cond.code yX4_happyBehindMonth cX4_happyBehindMonth 2 (some .int) ∈ lwG := lwT_in (i := 1362) (by decide +kernel) (by decide +kernel)
theorem wc_X4_happyTurned : Cond.code yX4_happyTurned cX4_happyTurned 2 (some .int) ∈ lwG := lwT_in (i := 1299) (by decide +kernel) (by decide +kernel)
theorem wc_X4_passTime : Cond.code yX4_passTime cX4_passTime 1 none ∈ lwG := lwT_in (i := 1367) (by decide +kernel) (by decide +kernel)
theorem wc_X4_valueOf : Cond.code yX4_valueOf cX4_valueOf 2 (some .int) ∈ lwG := lwT_in (i := 1173) (by decide +kernel) (by decide +kernel)
theorem wc_X5_areLovers : Cond.code yX5_areLovers cX5_areLovers 4 (some .boolean) ∈ lwG := lwT_in (i := 578) (by decide +kernel) (by decide +kernel)
theorem wc_X5_bestFor : Cond.code yX5_bestFor cX5_bestFor 5 (some .int) ∈ lwG := lwT_in (i := 1326) (by decide +kernel) (by decide +kernel)
theorem wc_X5_countIfSteady : Cond.code yX5_countIfSteady cX5_countIfSteady 4 none ∈ lwG := lwT_in (i := 1498) (by decide +kernel) (by decide +kernel)
theorem wc_X5_firstLovers : Cond.code yX5_firstLovers cX5_firstLovers 4 (some .int) ∈ lwG := lwT_in (i := 574) (by decide +kernel) (by decide +kernel)
theorem wc_X5_firstWithout : Cond.code yX5_firstWithout cX5_firstWithout 3 (some .int) ∈ lwG := lwT_in (i := 1494) (by decide +kernel) (by decide +kernel)
theorem wc_X5_isBetter : Cond.code yX5_isBetter cX5_isBetter 5 (some .boolean) ∈ lwG := lwT_in (i := 1329) (by decide +kernel) (by decide +kernel)
theorem wc_X5_loverPairs : Cond.code yX5_loverPairs cX5_loverPairs 5 (some .int) ∈ lwG := lwT_in (i := 596) (by decide +kernel) (by decide +kernel)
theorem wc_X5_mostPairs : Cond.code yX5_mostPairs cX5_mostPairs 6 (some .int) ∈ lwG := lwT_in (i := 612) (by decide +kernel) (by decide +kernel)
theorem wc_X5_mostWeddings : Cond.code yX5_mostWeddings cX5_mostWeddings 4 (some .int) ∈ lwG := lwT_in (i := 604) (by decide +kernel) (by decide +kernel)
theorem wc_X5_pairUp : Cond.code yX5_pairUp cX5_pairUp 6 none ∈ lwG := lwT_in (i := 1490) (by decide +kernel) (by decide +kernel)
theorem wc_X5_preferred : Cond.code yX5_preferred cX5_preferred 7 (some .int) ∈ lwG := lwT_in (i := 583) (by decide +kernel) (by decide +kernel)
theorem wc_X5_steadyPartner : Cond.code yX5_steadyPartner cX5_steadyPartner 3 (some .int) ∈ lwG := lwT_in (i := 1512) (by decide +kernel) (by decide +kernel)
theorem wc_X5_steadyWays : Cond.code yX5_steadyWays cX5_steadyWays 2 (some .int) ∈ lwG := lwT_in (i := 1485) (by decide +kernel) (by decide +kernel)
theorem wc_X5_tryPair : Cond.code yX5_tryPair cX5_tryPair 6 none ∈ lwG := lwT_in (i := 1507) (by decide +kernel) (by decide +kernel)
theorem wc_X5_wouldLeaveFor : Cond.code yX5_wouldLeaveFor cX5_wouldLeaveFor 5 (some .boolean) ∈ lwG := lwT_in (i := 1502) (by decide +kernel) (by decide +kernel)
theorem wc_X6_at : Cond.code yX6_at cX6_at 2 (some .int) ∈ lwG := lwT_in (i := 511) (by decide +kernel) (by decide +kernel)
theorem wc_X6_copyAll : Cond.code yX6_copyAll cX6_copyAll 2 none ∈ lwG := lwT_in (i := 480) (by decide +kernel) (by decide +kernel)
theorem wc_X6_put : Cond.code yX6_put cX6_put 3 none ∈ lwG := lwT_in (i := 452) (by decide +kernel) (by decide +kernel)
theorem wc_X6_putAll : Cond.code yX6_putAll cX6_putAll 3 none ∈ lwG := lwT_in (i := 1455) (by decide +kernel) (by decide +kernel)
theorem wc_X7_addThing : Cond.code yX7_addThing cX7_addThing 4 none ∈ lwG := lwT_in (i := 716) (by decide +kernel) (by decide +kernel)
theorem wc_X7_advance : Cond.code yX7_advance cX7_advance 1 none ∈ lwG := lwT_in (i := 789) (by decide +kernel) (by decide +kernel)
theorem wc_X7_cut : Cond.code yX7_cut cX7_cut 4 none ∈ lwG := lwT_in (i := 701) (by decide +kernel) (by decide +kernel)
theorem wc_X7_isDigit : Cond.code yX7_isDigit cX7_isDigit 1 (some .boolean) ∈ lwG := lwT_in (i := 712) (by decide +kernel) (by decide +kernel)
theorem wc_X7_isLetter : Cond.code yX7_isLetter cX7_isLetter 1 (some .boolean) ∈ lwG := lwT_in (i := 709) (by decide +kernel) (by decide +kernel)
theorem wc_X7_linesOf : Cond.code yX7_linesOf cX7_linesOf 5 (some .int) ∈ lwG := lwT_in (i := 696) (by decide +kernel) (by decide +kernel)
theorem wc_X7_needs : Cond.code yX7_needs cX7_needs 2 (some .boolean) ∈ lwG := lwT_in (i := 848) (by decide +kernel) (by decide +kernel)
theorem wc_X7_numberAt : Cond.code yX7_numberAt cX7_numberAt 5 (some .int) ∈ lwG := lwT_in (i := 783) (by decide +kernel) (by decide +kernel)
theorem wc_X7_refuse : Cond.code yX7_refuse cX7_refuse 1 (some .boolean) ∈ lwG := lwT_in (i := 805) (by decide +kernel) (by decide +kernel)
theorem wc_X7_stopOf : Cond.code yX7_stopOf cX7_stopOf 5 (some .int) ∈ lwG := lwT_in (i := 705) (by decide +kernel) (by decide +kernel)
theorem wc_X7_takeNumber : Cond.code yX7_takeNumber cX7_takeNumber 3 (some .int) ∈ lwG := lwT_in (i := 815) (by decide +kernel) (by decide +kernel)
theorem wc_X7_takes : Cond.code yX7_takes cX7_takes 2 (some .boolean) ∈ lwG := lwT_in (i := 824) (by decide +kernel) (by decide +kernel)
theorem wc_X8_addMembers : Cond.code yX8_addMembers cX8_addMembers 3 none ∈ lwG := lwT_in (i := 1549) (by decide +kernel) (by decide +kernel)
theorem wc_X8_bestParter : Cond.code yX8_bestParter cX8_bestParter 7 (some .int) ∈ lwG := lwT_in (i := 1562) (by decide +kernel) (by decide +kernel)
theorem wc_X8_fits : Cond.code yX8_fits cX8_fits 3 (some .boolean) ∈ lwG := lwT_in (i := 1544) (by decide +kernel) (by decide +kernel)
theorem wc_X8_fitting : Cond.code yX8_fitting cX8_fitting 3 (some .int) ∈ lwG := lwT_in (i := 1539) (by decide +kernel) (by decide +kernel)
theorem wc_X8_inAll : Cond.code yX8_inAll cX8_inAll 4 (some .int) ∈ lwG := lwT_in (i := 1535) (by decide +kernel) (by decide +kernel)
theorem wc_X8_reads : Cond.code yX8_reads cX8_reads 7 (some .boolean) ∈ lwG := lwT_in (i := 1528) (by decide +kernel) (by decide +kernel)
theorem wc_X9_addAsked : Cond.code yX9_addAsked cX9_addAsked 4 (some .boolean) ∈ lwG := lwT_in (i := 937) (by decide +kernel) (by decide +kernel)
theorem wc_X9_addMatch : Cond.code yX9_addMatch cX9_addMatch 5 (some .int) ∈ lwG := lwT_in (i := 953) (by decide +kernel) (by decide +kernel)
theorem wc_X9_addPerson : Cond.code yX9_addPerson cX9_addPerson 2 none ∈ lwG := lwT_in (i := 904) (by decide +kernel) (by decide +kernel)
theorem wc_X9_addToLog : Cond.code yX9_addToLog cX9_addToLog 5 none ∈ lwG := lwT_in (i := 1306) (by decide +kernel) (by decide +kernel)
theorem wc_X9_askersOf : Cond.code yX9_askersOf cX9_askersOf 4 (some .int) ∈ lwG := lwT_in (i := 617) (by decide +kernel) (by decide +kernel)
theorem wc_X9_changeHappy : Cond.code yX9_changeHappy cX9_changeHappy 3 (some .int) ∈ lwG := lwT_in (i := 1239) (by decide +kernel) (by decide +kernel)
theorem wc_X9_comesTo : Cond.code yX9_comesTo cX9_comesTo 5 (some .boolean) ∈ lwG := lwT_in (i := 1440) (by decide +kernel) (by decide +kernel)
theorem wc_X9_copyAll : Cond.code yX9_copyAll cX9_copyAll 2 none ∈ lwG := lwT_in (i := 472) (by decide +kernel) (by decide +kernel)
theorem wc_X9_copyPurses : Cond.code yX9_copyPurses cX9_copyPurses 2 none ∈ lwG := lwT_in (i := 476) (by decide +kernel) (by decide +kernel)
theorem wc_X9_endMatch : Cond.code yX9_endMatch cX9_endMatch 2 none ∈ lwG := lwT_in (i := 1269) (by decide +kernel) (by decide +kernel)
theorem wc_X9_firstOf : Cond.code yX9_firstOf cX9_firstOf 2 (some .int) ∈ lwG := lwT_in (i := 507) (by decide +kernel) (by decide +kernel)
theorem wc_X9_give : Cond.code yX9_give cX9_give 3 none ∈ lwG := lwT_in (i := 550) (by decide +kernel) (by decide +kernel)
theorem wc_X9_hasPerson : Cond.code yX9_hasPerson cX9_hasPerson 2 (some .boolean) ∈ lwG := lwT_in (i := 918) (by decide +kernel) (by decide +kernel)
theorem wc_X9_insurersOf : Cond.code yX9_insurersOf cX9_insurersOf 2 (some .int) ∈ lwG := lwT_in (i := 502) (by decide +kernel) (by decide +kernel)
theorem wc_X9_insurersOfPair : Cond.code yX9_insurersOfPair cX9_insurersOfPair 6 (some .int) ∈ lwG := lwT_in (i := 519) (by decide +kernel) (by decide +kernel)
theorem wc_X9_isLeastOfRing : Cond.code yX9_isLeastOfRing cX9_isLeastOfRing 4 (some .boolean) ∈ lwG := lwT_in (i := 566) (by decide +kernel) (by decide +kernel)
theorem wc_X9_isOver : Cond.code yX9_isOver cX9_isOver 2 (some .boolean) ∈ lwG := lwT_in (i := 494) (by decide +kernel) (by decide +kernel)
theorem wc_X9_isRuined : Cond.code yX9_isRuined cX9_isRuined 2 (some .boolean) ∈ lwG := lwT_in (i := 536) (by decide +kernel) (by decide +kernel)
theorem wc_X9_isWed : Cond.code yX9_isWed cX9_isWed 2 (some .boolean) ∈ lwG := lwT_in (i := 608) (by decide +kernel) (by decide +kernel)
theorem wc_X9_leaners : Cond.code yX9_leaners cX9_leaners 4 (some .int) ∈ lwG := lwT_in (i := 1436) (by decide +kernel) (by decide +kernel)
theorem wc_X9_likingOf : Cond.code yX9_likingOf cX9_likingOf 3 (some .int) ∈ lwG := lwT_in (i := 591) (by decide +kernel) (by decide +kernel)
theorem wc_X9_logRows : Cond.code yX9_logRows cX9_logRows 1 (some .int) ∈ lwG := lwT_in (i := 677) (by decide +kernel) (by decide +kernel)
theorem wc_X9_logged : Cond.code yX9_logged cX9_logged 3 (some .int) ∈ lwG := lwT_in (i := 1602) (by decide +kernel) (by decide +kernel)
theorem wc_X9_loggedClaims : Cond.code yX9_loggedClaims cX9_loggedClaims 4 (some .int) ∈ lwG := lwT_in (i := 1606) (by decide +kernel) (by decide +kernel)
theorem wc_X9_loggedPaid : Cond.code yX9_loggedPaid cX9_loggedPaid 4 (some .int) ∈ lwG := lwT_in (i := 1597) (by decide +kernel) (by decide +kernel)
theorem wc_X9_lookAt : Cond.code yX9_lookAt cX9_lookAt 6 none ∈ lwG := lwT_in (i := 1159) (by decide +kernel) (by decide +kernel)
theorem wc_X9_passMatch : Cond.code yX9_passMatch cX9_passMatch 5 none ∈ lwG := lwT_in (i := 1290) (by decide +kernel) (by decide +kernel)
theorem wc_X9_passMonth : Cond.code yX9_passMonth cX9_passMonth 4 none ∈ lwG := lwT_in (i := 1285) (by decide +kernel) (by decide +kernel)
theorem wc_X9_payClaim : Cond.code yX9_payClaim cX9_payClaim 5 (some .int) ∈ lwG := lwT_in (i := 498) (by decide +kernel) (by decide +kernel)
theorem wc_X9_payOut : Cond.code yX9_payOut cX9_payOut 3 (some .int) ∈ lwG := lwT_in (i := 532) (by decide +kernel) (by decide +kernel)
theorem wc_X9_payPremiums : Cond.code yX9_payPremiums cX9_payPremiums 6 none ∈ lwG := lwT_in (i := 1294) (by decide +kernel) (by decide +kernel)
theorem wc_X9_richestPerson : Cond.code yX9_richestPerson cX9_richestPerson 3 (some .int) ∈ lwG := lwT_in (i := 628) (by decide +kernel) (by decide +kernel)
theorem wc_X9_ringCount : Cond.code yX9_ringCount cX9_ringCount 3 (some .int) ∈ lwG := lwT_in (i := 558) (by decide +kernel) (by decide +kernel)
theorem wc_X9_ringSteps : Cond.code yX9_ringSteps cX9_ringSteps 4 (some .int) ∈ lwG := lwT_in (i := 562) (by decide +kernel) (by decide +kernel)
theorem wc_X9_ruinIfShort : Cond.code yX9_ruinIfShort cX9_ruinIfShort 3 none ∈ lwG := lwT_in (i := 540) (by decide +kernel) (by decide +kernel)
theorem wc_X9_secondOf : Cond.code yX9_secondOf cX9_secondOf 2 (some .int) ∈ lwG := lwT_in (i := 515) (by decide +kernel) (by decide +kernel)
theorem wc_X9_setLiking : Cond.code yX9_setLiking cX9_setLiking 4 none ∈ lwG := lwT_in (i := 925) (by decide +kernel) (by decide +kernel)
theorem wc_X9_shareOf : Cond.code yX9_shareOf cX9_shareOf 3 (some .int) ∈ lwG := lwT_in (i := 1105) (by decide +kernel) (by decide +kernel)
theorem wc_X9_spouseOf : Cond.code yX9_spouseOf cX9_spouseOf 3 (some .int) ∈ lwG := lwT_in (i := 587) (by decide +kernel) (by decide +kernel)
theorem wc_X9_take : Cond.code yX9_take cX9_take 4 (some .int) ∈ lwG := lwT_in (i := 544) (by decide +kernel) (by decide +kernel)
theorem wc_X9_wealthOfAll : Cond.code yX9_wealthOfAll cX9_wealthOfAll 3 (some .int) ∈ lwG := lwT_in (i := 668) (by decide +kernel) (by decide +kernel)
theorem wc_X9_wedPeople : Cond.code yX9_wedPeople cX9_wedPeople 3 (some .int) ∈ lwG := lwT_in (i := 672) (by decide +kernel) (by decide +kernel)
theorem wf_J0_1053 : Cond.fieldLink RJ0 1053 "jdk/internal/util/Preconditions" "SIOOBE_FORMATTER" "Ljava/util/function/BiFunction;" ∈ lwG := lwT_in (i := 753) (by decide +kernel) (by decide +kernel)
theorem wf_J0_15 : Cond.fieldLink RJ0 15 "java/lang/String" "coder" "B" ∈ lwG := lwT_in (i := 2234) (by decide +kernel) (by decide +kernel)
theorem wf_J0_38 : Cond.fieldLink RJ0 38 "java/lang/String" "COMPACT_STRINGS" "Z" ∈ lwG := lwT_in (i := 737) (by decide +kernel) (by decide +kernel)
theorem wf_J0_9 : Cond.fieldLink RJ0 9 "java/lang/String" "value" "[B" ∈ lwG := lwT_in (i := 2233) (by decide +kernel) (by decide +kernel)
theorem wf_X0_115 : Cond.fieldLink RX0 115 RX9 "ruined" "I" ∈ lwG := lwT_in (i := 78) (by decide +kernel) (by decide +kernel)
theorem wf_X0_118 : Cond.fieldLink RX0 118 RX9 "wealth" "LRivalWeds$Row;" ∈ lwG := lwT_in (i := 59) (by decide +kernel) (by decide +kernel)
theorem wf_X0_12 : Cond.fieldLink RX0 12 RX0 "scratch" "LRivalWeds$Town;" ∈ lwG := lwT_in (i := 334) (by decide +kernel) (by decide +kernel)
theorem wf_X0_131 : Cond.fieldLink RX0 131 RX9 "seed" "I" ∈ lwG := lwT_in (i := 101) (by decide +kernel) (by decide +kernel)
theorem wf_X0_138 : Cond.fieldLink RX0 138 RX9 "claims" "I" ∈ lwG := lwT_in (i := 106) (by decide +kernel) (by decide +kernel)
theorem wf_X0_21 : Cond.fieldLink RX0 21 RX0 "look" "LRivalWeds$Look;" ∈ lwG := lwT_in (i := 335) (by decide +kernel) (by decide +kernel)
theorem wf_X0_30 : Cond.fieldLink RX0 30 RX0 "cost" "LRivalWeds$Row;" ∈ lwG := lwT_in (i := 336) (by decide +kernel) (by decide +kernel)
theorem wf_X0_34 : Cond.fieldLink RX0 34 RX0 "costBehind" "LRivalWeds$Row;" ∈ lwG := lwT_in (i := 337) (by decide +kernel) (by decide +kernel)
theorem wf_X0_37 : Cond.fieldLink RX0 37 RX9 "quarrel" "I" ∈ lwG := lwT_in (i := 97) (by decide +kernel) (by decide +kernel)
theorem wf_X0_58 : Cond.fieldLink RX0 58 RX4 "happy" "I" ∈ lwG := lwT_in (i := 290) (by decide +kernel) (by decide +kernel)
theorem wf_X0_64 : Cond.fieldLink RX0 64 RX9 "bar" "I" ∈ lwG := lwT_in (i := 86) (by decide +kernel) (by decide +kernel)
theorem wf_X0_67 : Cond.fieldLink RX0 67 RX4 "quarrel" "I" ∈ lwG := lwT_in (i := 295) (by decide +kernel) (by decide +kernel)
theorem wf_X0_99 : Cond.fieldLink RX0 99 RX9 "matches" "I" ∈ lwG := lwT_in (i := 82) (by decide +kernel) (by decide +kernel)
theorem wf_X10_105 : Cond.fieldLink RX10 105 RX9 "reinsurer" "LRivalWeds$Row;" ∈ lwG := lwT_in (i := 64) (by decide +kernel) (by decide +kernel)
theorem wf_X10_112 : Cond.fieldLink RX10 112 RX9 "matches" "I" ∈ lwG := lwT_in (i := 81) (by decide +kernel) (by decide +kernel)
theorem wf_X10_115 : Cond.fieldLink RX10 115 "RivalWeds$Kind" "HAPPY" "LRivalWeds$Kind;" ∈ lwG := lwT_in (i := 945) (by decide +kernel) (by decide +kernel)
theorem wf_X10_12 : Cond.fieldLink RX10 12 RX10 "draft" "LRivalWeds$Town;" ∈ lwG := lwT_in (i := 195) (by decide +kernel) (by decide +kernel)
theorem wf_X10_125 : Cond.fieldLink RX10 125 "RivalWeds$Kind" "BAR" "LRivalWeds$Kind;" ∈ lwG := lwT_in (i := 958) (by decide +kernel) (by decide +kernel)
theorem wf_X10_128 : Cond.fieldLink RX10 128 "RivalWeds$Kind" "PREMIUM" "LRivalWeds$Kind;" ∈ lwG := lwT_in (i := 960) (by decide +kernel) (by decide +kernel)
theorem wf_X10_131 : Cond.fieldLink RX10 131 "RivalWeds$Kind" "PAYS" "LRivalWeds$Kind;" ∈ lwG := lwT_in (i := 962) (by decide +kernel) (by decide +kernel)
theorem wf_X10_134 : Cond.fieldLink RX10 134 RX9 "bar" "I" ∈ lwG := lwT_in (i := 87) (by decide +kernel) (by decide +kernel)
theorem wf_X10_137 : Cond.fieldLink RX10 137 RX9 "premium" "I" ∈ lwG := lwT_in (i := 90) (by decide +kernel) (by decide +kernel)
theorem wf_X10_140 : Cond.fieldLink RX10 140 RX9 "pays" "I" ∈ lwG := lwT_in (i := 93) (by decide +kernel) (by decide +kernel)
theorem wf_X10_143 : Cond.fieldLink RX10 143 RX10 "number" "I" ∈ lwG := lwT_in (i := 221) (by decide +kernel) (by decide +kernel)
theorem wf_X10_18 : Cond.fieldLink RX10 18 RX10 "kind" "LRivalWeds$Kind;" ∈ lwG := lwT_in (i := 210) (by decide +kernel) (by decide +kernel)
theorem wf_X10_22 : Cond.fieldLink RX10 22 "RivalWeds$Kind" "PERSON" "LRivalWeds$Kind;" ∈ lwG := lwT_in (i := 886) (by decide +kernel) (by decide +kernel)
theorem wf_X10_31 : Cond.fieldLink RX10 31 "RivalWeds$Kind" "LIKES" "LRivalWeds$Kind;" ∈ lwG := lwT_in (i := 905) (by decide +kernel) (by decide +kernel)
theorem wf_X10_37 : Cond.fieldLink RX10 37 "RivalWeds$Kind" "ASKED" "LRivalWeds$Kind;" ∈ lwG := lwT_in (i := 926) (by decide +kernel) (by decide +kernel)
theorem wf_X10_40 : Cond.fieldLink RX10 40 "RivalWeds$Kind" "REINSURED" "LRivalWeds$Kind;" ∈ lwG := lwT_in (i := 928) (by decide +kernel) (by decide +kernel)
theorem wf_X10_47 : Cond.fieldLink RX10 47 "RivalWeds$Kind" "WED" "LRivalWeds$Kind;" ∈ lwG := lwT_in (i := 939) (by decide +kernel) (by decide +kernel)
theorem wf_X10_57 : Cond.fieldLink RX10 57 RX9 "people" "I" ∈ lwG := lwT_in (i := 75) (by decide +kernel) (by decide +kernel)
theorem wf_X10_79 : Cond.fieldLink RX10 79 "RivalWeds$Kind" "DIGITS" "LRivalWeds$Kind;" ∈ lwG := lwT_in (i := 920) (by decide +kernel) (by decide +kernel)
theorem wf_X10_82 : Cond.fieldLink RX10 82 RX10 "stop" "I" ∈ lwG := lwT_in (i := 215) (by decide +kernel) (by decide +kernel)
theorem wf_X10_85 : Cond.fieldLink RX10 85 RX10 "begin" "I" ∈ lwG := lwT_in (i := 212) (by decide +kernel) (by decide +kernel)
theorem wf_X10_88 : Cond.fieldLink RX10 88 RX10 "bytes" "LRivalWeds$Row;" ∈ lwG := lwT_in (i := 198) (by decide +kernel) (by decide +kernel)
theorem wf_X11_113 : Cond.fieldLink RX11 113 RX10 "wrong" "I" ∈ lwG := lwT_in (i := 224) (by decide +kernel) (by decide +kernel)
theorem wf_X11_123 : Cond.fieldLink RX11 123 RX9 "texts" "I" ∈ lwG := lwT_in (i := 104) (by decide +kernel) (by decide +kernel)
theorem wf_X11_134 : Cond.fieldLink RX11 134 RX3 "draft" "LRivalWeds$Law;" ∈ lwG := lwT_in (i := 266) (by decide +kernel) (by decide +kernel)
theorem wf_X11_14 : Cond.fieldLink RX11 14 RX11 "tape" "LRivalWeds$Row;" ∈ lwG := lwT_in (i := 389) (by decide +kernel) (by decide +kernel)
theorem wf_X11_140 : Cond.fieldLink RX11 140 RX3 "wrong" "I" ∈ lwG := lwT_in (i := 226) (by decide +kernel) (by decide +kernel)
theorem wf_X11_149 : Cond.fieldLink RX11 149 RX9 "wealth" "LRivalWeds$Row;" ∈ lwG := lwT_in (i := 58) (by decide +kernel) (by decide +kernel)
theorem wf_X11_156 : Cond.fieldLink RX11 156 RX9 "asked" "LRivalWeds$Row;" ∈ lwG := lwT_in (i := 61) (by decide +kernel) (by decide +kernel)
theorem wf_X11_162 : Cond.fieldLink RX11 162 RX9 "reinsurer" "LRivalWeds$Row;" ∈ lwG := lwT_in (i := 65) (by decide +kernel) (by decide +kernel)
theorem wf_X11_196 : Cond.fieldLink RX11 196 RX9 "happy" "LRivalWeds$Row;" ∈ lwG := lwT_in (i := 69) (by decide +kernel) (by decide +kernel)
theorem wf_X11_199 : Cond.fieldLink RX11 199 RX9 "monthsWed" "LRivalWeds$Row;" ∈ lwG := lwT_in (i := 71) (by decide +kernel) (by decide +kernel)
theorem wf_X11_21 : Cond.fieldLink RX11 21 RX11 "town" "LRivalWeds$Town;" ∈ lwG := lwT_in (i := 390) (by decide +kernel) (by decide +kernel)
theorem wf_X11_229 : Cond.fieldLink RX11 229 RX9 "matches" "I" ∈ lwG := lwT_in (i := 83) (by decide +kernel) (by decide +kernel)
theorem wf_X11_256 : Cond.fieldLink RX11 256 RX9 "claims" "I" ∈ lwG := lwT_in (i := 107) (by decide +kernel) (by decide +kernel)
theorem wf_X11_28 : Cond.fieldLink RX11 28 RX11 "law" "LRivalWeds$Law;" ∈ lwG := lwT_in (i := 391) (by decide +kernel) (by decide +kernel)
theorem wf_X11_32 : Cond.fieldLink RX11 32 RX11 "imageTown" "LRivalWeds$Town;" ∈ lwG := lwT_in (i := 392) (by decide +kernel) (by decide +kernel)
theorem wf_X11_339 : Cond.fieldLink RX11 339 RX9 "people" "I" ∈ lwG := lwT_in (i := 76) (by decide +kernel) (by decide +kernel)
theorem wf_X11_35 : Cond.fieldLink RX11 35 RX11 "imageLaw" "LRivalWeds$Law;" ∈ lwG := lwT_in (i := 393) (by decide +kernel) (by decide +kernel)
theorem wf_X11_351 : Cond.fieldLink RX11 351 RX9 "seed" "I" ∈ lwG := lwT_in (i := 102) (by decide +kernel) (by decide +kernel)
theorem wf_X11_38 : Cond.fieldLink RX11 38 RX11 "remembered" "[LRivalWeds$Town;" ∈ lwG := lwT_in (i := 394) (by decide +kernel) (by decide +kernel)
theorem wf_X11_382 : Cond.fieldLink RX11 382 RX11 "acts" "I" ∈ lwG := lwT_in (i := 405) (by decide +kernel) (by decide +kernel)
theorem wf_X11_385 : Cond.fieldLink RX11 385 RX11 "oldestAct" "I" ∈ lwG := lwT_in (i := 404) (by decide +kernel) (by decide +kernel)
theorem wf_X11_392 : Cond.fieldLink RX11 392 RX11 "imageKept" "Z" ∈ lwG := lwT_in (i := 403) (by decide +kernel) (by decide +kernel)
theorem wf_X11_396 : Cond.fieldLink RX11 396 RX2 "lines" "I" ∈ lwG := lwT_in (i := 163) (by decide +kernel) (by decide +kernel)
theorem wf_X11_399 : Cond.fieldLink RX11 399 RX9 "month" "I" ∈ lwG := lwT_in (i := 96) (by decide +kernel) (by decide +kernel)
theorem wf_X11_402 : Cond.fieldLink RX11 402 RX9 "quarrel" "I" ∈ lwG := lwT_in (i := 99) (by decide +kernel) (by decide +kernel)
theorem wf_X11_405 : Cond.fieldLink RX11 405 RX9 "bar" "I" ∈ lwG := lwT_in (i := 88) (by decide +kernel) (by decide +kernel)
theorem wf_X11_408 : Cond.fieldLink RX11 408 RX9 "premium" "I" ∈ lwG := lwT_in (i := 91) (by decide +kernel) (by decide +kernel)
theorem wf_X11_411 : Cond.fieldLink RX11 411 RX9 "pays" "I" ∈ lwG := lwT_in (i := 94) (by decide +kernel) (by decide +kernel)
theorem wf_X11_417 : Cond.fieldLink RX11 417 RX9 "ruined" "I" ∈ lwG := lwT_in (i := 79) (by decide +kernel) (by decide +kernel)
theorem wf_X11_45 : Cond.fieldLink RX11 45 RX11 "townText" "LRivalWeds$TownText;" ∈ lwG := lwT_in (i := 395) (by decide +kernel) (by decide +kernel)
theorem wf_X11_52 : Cond.fieldLink RX11 52 RX11 "lawText" "LRivalWeds$LawText;" ∈ lwG := lwT_in (i := 396) (by decide +kernel) (by decide +kernel)
theorem wf_X11_59 : Cond.fieldLink RX11 59 RX11 "look" "LRivalWeds$Look;" ∈ lwG := lwT_in (i := 397) (by decide +kernel) (by decide +kernel)
theorem wf_X11_66 : Cond.fieldLink RX11 66 RX11 "foresight" "LRivalWeds$Foresight;" ∈ lwG := lwT_in (i := 398) (by decide +kernel) (by decide +kernel)
theorem wf_X11_73 : Cond.fieldLink RX11 73 RX11 "pairs" "LRivalWeds$Pairs;" ∈ lwG := lwT_in (i := 399) (by decide +kernel) (by decide +kernel)
theorem wf_X11_80 : Cond.fieldLink RX11 80 RX11 "toldSets" "LRivalWeds$ToldSets;" ∈ lwG := lwT_in (i := 400) (by decide +kernel) (by decide +kernel)
theorem wf_X11_84 : Cond.fieldLink RX11 84 RX11 "wrongByte" "I" ∈ lwG := lwT_in (i := 402) (by decide +kernel) (by decide +kernel)
theorem wf_X11_88 : Cond.fieldLink RX11 88 RX11 "tapeLength" "I" ∈ lwG := lwT_in (i := 401) (by decide +kernel) (by decide +kernel)
theorem wf_X11_98 : Cond.fieldLink RX11 98 RX10 "draft" "LRivalWeds$Town;" ∈ lwG := lwT_in (i := 196) (by decide +kernel) (by decide +kernel)
theorem wf_X12_13 : Cond.fieldLink RX12 13 RX12 "kept" "[I" ∈ lwG := lwT_in (i := 1624) (by decide +kernel) (by decide +kernel)
theorem wf_X12_16 : Cond.fieldLink RX12 16 RX12 "aside" "[I" ∈ lwG := lwT_in (i := 1626) (by decide +kernel) (by decide +kernel)
theorem wf_X12_175 : Cond.fieldLink RX12 175 RX12 "deep" "I" ∈ lwG := lwT_in (i := 1635) (by decide +kernel) (by decide +kernel)
theorem wf_X12_19 : Cond.fieldLink RX12 19 RX12 "acts" "[I" ∈ lwG := lwT_in (i := 1627) (by decide +kernel) (by decide +kernel)
theorem wf_X12_201 : Cond.fieldLink RX12 201 RX12 "acted" "I" ∈ lwG := lwT_in (i := 1628) (by decide +kernel) (by decide +kernel)
theorem wf_X12_22 : Cond.fieldLink RX12 22 RX12 "tape" "[I" ∈ lwG := lwT_in (i := 1629) (by decide +kernel) (by decide +kernel)
theorem wf_X12_221 : Cond.fieldLink RX12 221 RX12 "isRich" "Z" ∈ lwG := lwT_in (i := 1637) (by decide +kernel) (by decide +kernel)
theorem wf_X12_25 : Cond.fieldLink RX12 25 RX12 "fault" "I" ∈ lwG := lwT_in (i := 1634) (by decide +kernel) (by decide +kernel)
theorem wf_X12_253 : Cond.fieldLink RX12 253 RX12 "turns" "I" ∈ lwG := lwT_in (i := 1638) (by decide +kernel) (by decide +kernel)
theorem wf_X12_29 : Cond.fieldLink RX12 29 RX12 "fact" "[I" ∈ lwG := lwT_in (i := 1636) (by decide +kernel) (by decide +kernel)
theorem wf_X12_32 : Cond.fieldLink RX12 32 RX12 "gifts" "[I" ∈ lwG := lwT_in (i := 1639) (by decide +kernel) (by decide +kernel)
theorem wf_X12_35 : Cond.fieldLink RX12 35 RX12 "turned" "[I" ∈ lwG := lwT_in (i := 1640) (by decide +kernel) (by decide +kernel)
theorem wf_X12_351 : Cond.fieldLink RX12 351 RX12 "ways" "I" ∈ lwG := lwT_in (i := 1643) (by decide +kernel) (by decide +kernel)
theorem wf_X12_372 : Cond.fieldLink RX12 372 RX12 "hasImage" "Z" ∈ lwG := lwT_in (i := 1625) (by decide +kernel) (by decide +kernel)
theorem wf_X12_38 : Cond.fieldLink RX12 38 RX12 "by" "[I" ∈ lwG := lwT_in (i := 1641) (by decide +kernel) (by decide +kernel)
theorem wf_X12_41 : Cond.fieldLink RX12 41 RX12 "first" "[I" ∈ lwG := lwT_in (i := 1642) (by decide +kernel) (by decide +kernel)
theorem wf_X12_44 : Cond.fieldLink RX12 44 RX12 "fits" "[Z" ∈ lwG := lwT_in (i := 1644) (by decide +kernel) (by decide +kernel)
theorem wf_X12_48 : Cond.fieldLink RX12 48 RX12 "pairs" "[I" ∈ lwG := lwT_in (i := 1645) (by decide +kernel) (by decide +kernel)
theorem wf_X12_51 : Cond.fieldLink RX12 51 RX12 "thrown" "I" ∈ lwG := lwT_in (i := 1622) (by decide +kernel) (by decide +kernel)
theorem wf_X12_7 : Cond.fieldLink RX12 7 RX12 "m" "[I" ∈ lwG := lwT_in (i := 1623) (by decide +kernel) (by decide +kernel)
theorem wf_X12_76 : Cond.fieldLink RX12 76 RX12 "taped" "I" ∈ lwG := lwT_in (i := 1630) (by decide +kernel) (by decide +kernel)
theorem wf_X12_79 : Cond.fieldLink RX12 79 RX12 "base" "I" ∈ lwG := lwT_in (i := 1631) (by decide +kernel) (by decide +kernel)
theorem wf_X12_82 : Cond.fieldLink RX12 82 RX12 "at" "I" ∈ lwG := lwT_in (i := 1633) (by decide +kernel) (by decide +kernel)
theorem wf_X12_85 : Cond.fieldLink RX12 85 RX12 "end" "I" ∈ lwG := lwT_in (i := 1632) (by decide +kernel) (by decide +kernel)
theorem wf_X1_118 : Cond.fieldLink RX1 118 "RivalWeds$Kind" "letters" "Ljava/lang/String;" ∈ lwG := lwT_in (i := 2232) (by decide +kernel) (by decide +kernel)
theorem wf_X1_126 : Cond.fieldLink RX1 126 "RivalWeds$Kind" "ALL" "[LRivalWeds$Kind;" ∈ lwG := lwT_in (i := 722) (by decide +kernel) (by decide +kernel)
theorem wf_X1_96 : Cond.fieldLink RX1 96 "RivalWeds$Kind" "UNKNOWN" "LRivalWeds$Kind;" ∈ lwG := lwT_in (i := 778) (by decide +kernel) (by decide +kernel)
theorem wf_X2_14 : Cond.fieldLink RX2 14 RX2 "amounts" "LRivalWeds$Row;" ∈ lwG := lwT_in (i := 157) (by decide +kernel) (by decide +kernel)
theorem wf_X2_20 : Cond.fieldLink RX2 20 RX2 "ends" "LRivalWeds$Row;" ∈ lwG := lwT_in (i := 158) (by decide +kernel) (by decide +kernel)
theorem wf_X2_23 : Cond.fieldLink RX2 23 RX2 "codes" "[I" ∈ lwG := lwT_in (i := 159) (by decide +kernel) (by decide +kernel)
theorem wf_X2_27 : Cond.fieldLink RX2 27 RX2 "stack" "LRivalWeds$Row;" ∈ lwG := lwT_in (i := 160) (by decide +kernel) (by decide +kernel)
theorem wf_X2_30 : Cond.fieldLink RX2 30 RX2 "lines" "I" ∈ lwG := lwT_in (i := 162) (by decide +kernel) (by decide +kernel)
theorem wf_X2_34 : Cond.fieldLink RX2 34 RX2 "codeCount" "I" ∈ lwG := lwT_in (i := 161) (by decide +kernel) (by decide +kernel)
theorem wf_X2_57 : Cond.fieldLink RX2 57 RX4 "liking" "I" ∈ lwG := lwT_in (i := 301) (by decide +kernel) (by decide +kernel)
theorem wf_X2_62 : Cond.fieldLink RX2 62 RX4 "quarrel" "I" ∈ lwG := lwT_in (i := 296) (by decide +kernel) (by decide +kernel)
theorem wf_X3_102 : Cond.fieldLink RX3 102 "RivalWeds$Kind" "MORE" "LRivalWeds$Kind;" ∈ lwG := lwT_in (i := 872) (by decide +kernel) (by decide +kernel)
theorem wf_X3_105 : Cond.fieldLink RX3 105 RX3 "number" "I" ∈ lwG := lwT_in (i := 219) (by decide +kernel) (by decide +kernel)
theorem wf_X3_111 : Cond.fieldLink RX3 111 "RivalWeds$Kind" "PLUS" "LRivalWeds$Kind;" ∈ lwG := lwT_in (i := 868) (by decide +kernel) (by decide +kernel)
theorem wf_X3_12 : Cond.fieldLink RX3 12 RX3 "draft" "LRivalWeds$Law;" ∈ lwG := lwT_in (i := 265) (by decide +kernel) (by decide +kernel)
theorem wf_X3_18 : Cond.fieldLink RX3 18 RX3 "kind" "LRivalWeds$Kind;" ∈ lwG := lwT_in (i := 208) (by decide +kernel) (by decide +kernel)
theorem wf_X3_22 : Cond.fieldLink RX3 22 "RivalWeds$Kind" "LIFT" "LRivalWeds$Kind;" ∈ lwG := lwT_in (i := 796) (by decide +kernel) (by decide +kernel)
theorem wf_X3_27 : Cond.fieldLink RX3 27 "RivalWeds$Kind" "SOUR" "LRivalWeds$Kind;" ∈ lwG := lwT_in (i := 798) (by decide +kernel) (by decide +kernel)
theorem wf_X3_41 : Cond.fieldLink RX3 41 "RivalWeds$Kind" "IF" "LRivalWeds$Kind;" ∈ lwG := lwT_in (i := 817) (by decide +kernel) (by decide +kernel)
theorem wf_X3_59 : Cond.fieldLink RX3 59 "RivalWeds$Kind" "OR" "LRivalWeds$Kind;" ∈ lwG := lwT_in (i := 876) (by decide +kernel) (by decide +kernel)
theorem wf_X3_68 : Cond.fieldLink RX3 68 "RivalWeds$Kind" "AND" "LRivalWeds$Kind;" ∈ lwG := lwT_in (i := 874) (by decide +kernel) (by decide +kernel)
theorem wf_X3_71 : Cond.fieldLink RX3 71 "RivalWeds$Kind" "NOT" "LRivalWeds$Kind;" ∈ lwG := lwT_in (i := 837) (by decide +kernel) (by decide +kernel)
theorem wf_X3_74 : Cond.fieldLink RX3 74 "RivalWeds$Kind" "OPEN" "LRivalWeds$Kind;" ∈ lwG := lwT_in (i := 839) (by decide +kernel) (by decide +kernel)
theorem wf_X3_77 : Cond.fieldLink RX3 77 "RivalWeds$Kind" "CLOSE" "LRivalWeds$Kind;" ∈ lwG := lwT_in (i := 841) (by decide +kernel) (by decide +kernel)
theorem wf_X3_86 : Cond.fieldLink RX3 86 "RivalWeds$Kind" "INSURED" "LRivalWeds$Kind;" ∈ lwG := lwT_in (i := 857) (by decide +kernel) (by decide +kernel)
theorem wf_X3_89 : Cond.fieldLink RX3 89 "RivalWeds$Kind" "RICH" "LRivalWeds$Kind;" ∈ lwG := lwT_in (i := 859) (by decide +kernel) (by decide +kernel)
theorem wf_X3_92 : Cond.fieldLink RX3 92 "RivalWeds$Kind" "code" "I" ∈ lwG := lwT_in (i := 2235) (by decide +kernel) (by decide +kernel)
theorem wf_X3_99 : Cond.fieldLink RX3 99 "RivalWeds$Kind" "LESS" "LRivalWeds$Kind;" ∈ lwG := lwT_in (i := 870) (by decide +kernel) (by decide +kernel)
theorem wf_X4_15 : Cond.fieldLink RX4 15 RX4 "months" "I" ∈ lwG := lwT_in (i := 292) (by decide +kernel) (by decide +kernel)
theorem wf_X4_18 : Cond.fieldLink RX4 18 RX4 "quarrel" "I" ∈ lwG := lwT_in (i := 294) (by decide +kernel) (by decide +kernel)
theorem wf_X4_21 : Cond.fieldLink RX4 21 RX4 "insurers" "I" ∈ lwG := lwT_in (i := 298) (by decide +kernel) (by decide +kernel)
theorem wf_X4_24 : Cond.fieldLink RX4 24 RX4 "liking" "I" ∈ lwG := lwT_in (i := 300) (by decide +kernel) (by decide +kernel)
theorem wf_X4_27 : Cond.fieldLink RX4 27 RX4 "month" "I" ∈ lwG := lwT_in (i := 303) (by decide +kernel) (by decide +kernel)
theorem wf_X4_30 : Cond.fieldLink RX4 30 RX4 "rich" "Z" ∈ lwG := lwT_in (i := 305) (by decide +kernel) (by decide +kernel)
theorem wf_X4_9 : Cond.fieldLink RX4 9 RX4 "happy" "I" ∈ lwG := lwT_in (i := 289) (by decide +kernel) (by decide +kernel)
theorem wf_X5_111 : Cond.fieldLink RX5 111 RX9 "asked" "LRivalWeds$Row;" ∈ lwG := lwT_in (i := 62) (by decide +kernel) (by decide +kernel)
theorem wf_X5_14 : Cond.fieldLink RX5 14 RX5 "partner" "LRivalWeds$Row;" ∈ lwG := lwT_in (i := 355) (by decide +kernel) (by decide +kernel)
theorem wf_X5_20 : Cond.fieldLink RX5 20 RX5 "firstWay" "LRivalWeds$Row;" ∈ lwG := lwT_in (i := 356) (by decide +kernel) (by decide +kernel)
theorem wf_X5_29 : Cond.fieldLink RX5 29 RX9 "people" "I" ∈ lwG := lwT_in (i := 73) (by decide +kernel) (by decide +kernel)
theorem wf_X5_68 : Cond.fieldLink RX5 68 RX5 "ways" "I" ∈ lwG := lwT_in (i := 357) (by decide +kernel) (by decide +kernel)
theorem wf_X6_7 : Cond.fieldLink RX6 7 RX6 "cells" "[I" ∈ lwG := lwT_in (i := 44) (by decide +kernel) (by decide +kernel)
theorem wf_X7_101 : Cond.fieldLink RX7 101 "RivalWeds$Kind" "DIGITS" "LRivalWeds$Kind;" ∈ lwG := lwT_in (i := 717) (by decide +kernel) (by decide +kernel)
theorem wf_X7_112 : Cond.fieldLink RX7 112 RX7 "begin" "I" ∈ lwG := lwT_in (i := 214) (by decide +kernel) (by decide +kernel)
theorem wf_X7_115 : Cond.fieldLink RX7 115 RX7 "stop" "I" ∈ lwG := lwT_in (i := 217) (by decide +kernel) (by decide +kernel)
theorem wf_X7_14 : Cond.fieldLink RX7 14 RX7 "bytes" "LRivalWeds$Row;" ∈ lwG := lwT_in (i := 197) (by decide +kernel) (by decide +kernel)
theorem wf_X7_22 : Cond.fieldLink RX7 22 RX7 "kinds" "[LRivalWeds$Kind;" ∈ lwG := lwT_in (i := 200) (by decide +kernel) (by decide +kernel)
theorem wf_X7_26 : Cond.fieldLink RX7 26 RX7 "begins" "[I" ∈ lwG := lwT_in (i := 201) (by decide +kernel) (by decide +kernel)
theorem wf_X7_30 : Cond.fieldLink RX7 30 RX7 "stops" "[I" ∈ lwG := lwT_in (i := 202) (by decide +kernel) (by decide +kernel)
theorem wf_X7_33 : Cond.fieldLink RX7 33 RX7 "numbers" "[I" ∈ lwG := lwT_in (i := 203) (by decide +kernel) (by decide +kernel)
theorem wf_X7_36 : Cond.fieldLink RX7 36 "RivalWeds$Kind" "TEXT_END" "LRivalWeds$Kind;" ∈ lwG := lwT_in (i := 191) (by decide +kernel) (by decide +kernel)
theorem wf_X7_40 : Cond.fieldLink RX7 40 RX7 "kind" "LRivalWeds$Kind;" ∈ lwG := lwT_in (i := 207) (by decide +kernel) (by decide +kernel)
theorem wf_X7_43 : Cond.fieldLink RX7 43 RX7 "number" "I" ∈ lwG := lwT_in (i := 218) (by decide +kernel) (by decide +kernel)
theorem wf_X7_47 : Cond.fieldLink RX7 47 RX7 "wrong" "I" ∈ lwG := lwT_in (i := 223) (by decide +kernel) (by decide +kernel)
theorem wf_X7_54 : Cond.fieldLink RX7 54 RX7 "length" "I" ∈ lwG := lwT_in (i := 205) (by decide +kernel) (by decide +kernel)
theorem wf_X7_60 : Cond.fieldLink RX7 60 RX7 "index" "I" ∈ lwG := lwT_in (i := 206) (by decide +kernel) (by decide +kernel)
theorem wf_X7_70 : Cond.fieldLink RX7 70 "RivalWeds$Kind" "LINE_END" "LRivalWeds$Kind;" ∈ lwG := lwT_in (i := 964) (by decide +kernel) (by decide +kernel)
theorem wf_X7_80 : Cond.fieldLink RX7 80 RX7 "things" "I" ∈ lwG := lwT_in (i := 204) (by decide +kernel) (by decide +kernel)
theorem wf_X8_14 : Cond.fieldLink RX8 14 RX8 "rowSets" "LRivalWeds$Row;" ∈ lwG := lwT_in (i := 373) (by decide +kernel) (by decide +kernel)
theorem wf_X8_20 : Cond.fieldLink RX8 20 RX8 "rowCounts" "LRivalWeds$Row;" ∈ lwG := lwT_in (i := 374) (by decide +kernel) (by decide +kernel)
theorem wf_X8_23 : Cond.fieldLink RX8 23 RX8 "countsWith" "LRivalWeds$Row;" ∈ lwG := lwT_in (i := 375) (by decide +kernel) (by decide +kernel)
theorem wf_X8_26 : Cond.fieldLink RX8 26 RX8 "rows" "I" ∈ lwG := lwT_in (i := 376) (by decide +kernel) (by decide +kernel)
theorem wf_X8_30 : Cond.fieldLink RX8 30 RX8 "people" "I" ∈ lwG := lwT_in (i := 377) (by decide +kernel) (by decide +kernel)
theorem wf_X9_14 : Cond.fieldLink RX9 14 RX9 "wealth" "LRivalWeds$Row;" ∈ lwG := lwT_in (i := 57) (by decide +kernel) (by decide +kernel)
theorem wf_X9_142 : Cond.fieldLink RX9 142 RX4 "happy" "I" ∈ lwG := lwT_in (i := 291) (by decide +kernel) (by decide +kernel)
theorem wf_X9_146 : Cond.fieldLink RX9 146 RX4 "months" "I" ∈ lwG := lwT_in (i := 293) (by decide +kernel) (by decide +kernel)
theorem wf_X9_149 : Cond.fieldLink RX9 149 RX4 "quarrel" "I" ∈ lwG := lwT_in (i := 297) (by decide +kernel) (by decide +kernel)
theorem wf_X9_153 : Cond.fieldLink RX9 153 RX4 "insurers" "I" ∈ lwG := lwT_in (i := 299) (by decide +kernel) (by decide +kernel)
theorem wf_X9_159 : Cond.fieldLink RX9 159 RX4 "liking" "I" ∈ lwG := lwT_in (i := 302) (by decide +kernel) (by decide +kernel)
theorem wf_X9_162 : Cond.fieldLink RX9 162 RX4 "month" "I" ∈ lwG := lwT_in (i := 304) (by decide +kernel) (by decide +kernel)
theorem wf_X9_163 : Cond.fieldLink RX9 163 RX4 "rich" "Z" ∈ lwG := lwT_in (i := 306) (by decide +kernel) (by decide +kernel)
theorem wf_X9_20 : Cond.fieldLink RX9 20 RX9 "asked" "LRivalWeds$Row;" ∈ lwG := lwT_in (i := 60) (by decide +kernel) (by decide +kernel)
theorem wf_X9_23 : Cond.fieldLink RX9 23 RX9 "reinsurer" "LRivalWeds$Row;" ∈ lwG := lwT_in (i := 63) (by decide +kernel) (by decide +kernel)
theorem wf_X9_26 : Cond.fieldLink RX9 26 RX9 "likings" "LRivalWeds$Row;" ∈ lwG := lwT_in (i := 66) (by decide +kernel) (by decide +kernel)
theorem wf_X9_29 : Cond.fieldLink RX9 29 RX9 "both" "LRivalWeds$Row;" ∈ lwG := lwT_in (i := 67) (by decide +kernel) (by decide +kernel)
theorem wf_X9_32 : Cond.fieldLink RX9 32 RX9 "happy" "LRivalWeds$Row;" ∈ lwG := lwT_in (i := 68) (by decide +kernel) (by decide +kernel)
theorem wf_X9_35 : Cond.fieldLink RX9 35 RX9 "monthsWed" "LRivalWeds$Row;" ∈ lwG := lwT_in (i := 70) (by decide +kernel) (by decide +kernel)
theorem wf_X9_38 : Cond.fieldLink RX9 38 RX9 "logCells" "LRivalWeds$Row;" ∈ lwG := lwT_in (i := 72) (by decide +kernel) (by decide +kernel)
theorem wf_X9_41 : Cond.fieldLink RX9 41 RX9 "bar" "I" ∈ lwG := lwT_in (i := 85) (by decide +kernel) (by decide +kernel)
theorem wf_X9_45 : Cond.fieldLink RX9 45 RX9 "premium" "I" ∈ lwG := lwT_in (i := 89) (by decide +kernel) (by decide +kernel)
theorem wf_X9_48 : Cond.fieldLink RX9 48 RX9 "pays" "I" ∈ lwG := lwT_in (i := 92) (by decide +kernel) (by decide +kernel)
theorem wf_X9_51 : Cond.fieldLink RX9 51 RX9 "seed" "I" ∈ lwG := lwT_in (i := 100) (by decide +kernel) (by decide +kernel)
theorem wf_X9_62 : Cond.fieldLink RX9 62 RX9 "people" "I" ∈ lwG := lwT_in (i := 74) (by decide +kernel) (by decide +kernel)
theorem wf_X9_65 : Cond.fieldLink RX9 65 RX9 "matches" "I" ∈ lwG := lwT_in (i := 80) (by decide +kernel) (by decide +kernel)
theorem wf_X9_68 : Cond.fieldLink RX9 68 RX9 "over" "I" ∈ lwG := lwT_in (i := 84) (by decide +kernel) (by decide +kernel)
theorem wf_X9_71 : Cond.fieldLink RX9 71 RX9 "month" "I" ∈ lwG := lwT_in (i := 95) (by decide +kernel) (by decide +kernel)
theorem wf_X9_74 : Cond.fieldLink RX9 74 RX9 "quarrel" "I" ∈ lwG := lwT_in (i := 98) (by decide +kernel) (by decide +kernel)
theorem wf_X9_77 : Cond.fieldLink RX9 77 RX9 "texts" "I" ∈ lwG := lwT_in (i := 103) (by decide +kernel) (by decide +kernel)
theorem wf_X9_80 : Cond.fieldLink RX9 80 RX9 "claims" "I" ∈ lwG := lwT_in (i := 105) (by decide +kernel) (by decide +kernel)
theorem wf_X9_83 : Cond.fieldLink RX9 83 RX9 "ruined" "I" ∈ lwG := lwT_in (i := 77) (by decide +kernel) (by decide +kernel)
theorem wi_J0_charAt_5068e : Cond.instanceMethod yJ0_charAt_5068e ∈ lwG := lwT_in (i := 740) (by decide +kernel) (by decide +kernel)
theorem wi_J0_coder_7d493 : Cond.instanceMethod yJ0_coder_7d493 ∈ lwG := lwT_in (i := 734) (by decide +kernel) (by decide +kernel)
theorem wi_J0_isLatin1_aae02 : Cond.instanceMethod yJ0_isLatin1_aae02 ∈ lwG := lwT_in (i := 744) (by decide +kernel) (by decide +kernel)
theorem wi_J0_length_8abf5 : Cond.instanceMethod yJ0_length_8abf5 ∈ lwG := lwT_in (i := 730) (by decide +kernel) (by decide +kernel)
theorem wi_X0_addGifts : Cond.instanceMethod yX0_addGifts ∈ lwG := lwT_in (i := 1458) (by decide +kernel) (by decide +kernel)
theorem wi_X0_claimAll : Cond.instanceMethod yX0_claimAll ∈ lwG := lwT_in (i := 489) (by decide +kernel) (by decide +kernel)
theorem wi_X0_claimQuarrels : Cond.instanceMethod yX0_claimQuarrels ∈ lwG := lwT_in (i := 1388) (by decide +kernel) (by decide +kernel)
theorem wi_X0_fallen : Cond.instanceMethod yX0_fallen ∈ lwG := lwT_in (i := 466) (by decide +kernel) (by decide +kernel)
theorem wi_X0_fewestGifts : Cond.instanceMethod yX0_fewestGifts ∈ lwG := lwT_in (i := 1449) (by decide +kernel) (by decide +kernel)
theorem wi_X0_firstClaim : Cond.instanceMethod yX0_firstClaim ∈ lwG := lwT_in (i := 1377) (by decide +kernel) (by decide +kernel)
theorem wi_X0_happyAhead : Cond.instanceMethod yX0_happyAhead ∈ lwG := lwT_in (i := 1356) (by decide +kernel) (by decide +kernel)
theorem wi_X0_happyNext : Cond.instanceMethod yX0_happyNext ∈ lwG := lwT_in (i := 1344) (by decide +kernel) (by decide +kernel)
theorem wi_X0_leastWealth : Cond.instanceMethod yX0_leastWealth ∈ lwG := lwT_in (i := 1412) (by decide +kernel) (by decide +kernel)
theorem wi_X0_lossOf : Cond.instanceMethod yX0_lossOf ∈ lwG := lwT_in (i := 1399) (by decide +kernel) (by decide +kernel)
theorem wi_X0_passCosts : Cond.instanceMethod yX0_passCosts ∈ lwG := lwT_in (i := 1464) (by decide +kernel) (by decide +kernel)
theorem wi_X0_ruinedInTrial : Cond.instanceMethod yX0_ruinedInTrial ∈ lwG := lwT_in (i := 1577) (by decide +kernel) (by decide +kernel)
theorem wi_X0_tryMonths : Cond.instanceMethod yX0_tryMonths ∈ lwG := lwT_in (i := 1572) (by decide +kernel) (by decide +kernel)
theorem wi_X0_turnsNow : Cond.instanceMethod yX0_turnsNow ∈ lwG := lwT_in (i := 1153) (by decide +kernel) (by decide +kernel)
theorem wi_X10_readsLikes : Cond.instanceMethod yX10_readsLikes ∈ lwG := lwT_in (i := 909) (by decide +kernel) (by decide +kernel)
theorem wi_X10_readsLine : Cond.instanceMethod yX10_readsLine ∈ lwG := lwT_in (i := 884) (by decide +kernel) (by decide +kernel)
theorem wi_X10_readsPerson : Cond.instanceMethod yX10_readsPerson ∈ lwG := lwT_in (i := 890) (by decide +kernel) (by decide +kernel)
theorem wi_X10_readsSetting : Cond.instanceMethod yX10_readsSetting ∈ lwG := lwT_in (i := 956) (by decide +kernel) (by decide +kernel)
theorem wi_X10_readsTwo : Cond.instanceMethod yX10_readsTwo ∈ lwG := lwT_in (i := 932) (by decide +kernel) (by decide +kernel)
theorem wi_X10_readsWed : Cond.instanceMethod yX10_readsWed ∈ lwG := lwT_in (i := 943) (by decide +kernel) (by decide +kernel)
theorem wi_X10_takeSomebody : Cond.instanceMethod yX10_takeSomebody ∈ lwG := lwT_in (i := 913) (by decide +kernel) (by decide +kernel)
theorem wi_X11_checkGoesOn : Cond.instanceMethod yX11_checkGoesOn ∈ lwG := lwT_in (i := 1230) (by decide +kernel) (by decide +kernel)
theorem wi_X11_checkInsurer : Cond.instanceMethod yX11_checkInsurer ∈ lwG := lwT_in (i := 1226) (by decide +kernel) (by decide +kernel)
theorem wi_X11_checkMatch : Cond.instanceMethod yX11_checkMatch ∈ lwG := lwT_in (i := 1145) (by decide +kernel) (by decide +kernel)
theorem wi_X11_checkNumber : Cond.instanceMethod yX11_checkNumber ∈ lwG := lwT_in (i := 1279) (by decide +kernel) (by decide +kernel)
theorem wi_X11_checkPerson : Cond.instanceMethod yX11_checkPerson ∈ lwG := lwT_in (i := 1079) (by decide +kernel) (by decide +kernel)
theorem wi_X11_checkQuarrel : Cond.instanceMethod yX11_checkQuarrel ∈ lwG := lwT_in (i := 1341) (by decide +kernel) (by decide +kernel)
theorem wi_X11_checkTwo : Cond.instanceMethod yX11_checkTwo ∈ lwG := lwT_in (i := 1132) (by decide +kernel) (by decide +kernel)
theorem wi_X11_feedNumber : Cond.instanceMethod yX11_feedNumber ∈ lwG := lwT_in (i := 447) (by decide +kernel) (by decide +kernel)
theorem wi_X11_forgetActs : Cond.instanceMethod yX11_forgetActs ∈ lwG := lwT_in (i := 659) (by decide +kernel) (by decide +kernel)
theorem wi_X11_readTold : Cond.instanceMethod yX11_readTold ∈ lwG := lwT_in (i := 1523) (by decide +kernel) (by decide +kernel)
theorem wi_X11_remember : Cond.instanceMethod yX11_remember ∈ lwG := lwT_in (i := 1187) (by decide +kernel) (by decide +kernel)
theorem wi_X11_rememberedTown : Cond.instanceMethod yX11_rememberedTown ∈ lwG := lwT_in (i := 639) (by decide +kernel) (by decide +kernel)
theorem wi_X11_useTapeUp : Cond.instanceMethod yX11_useTapeUp ∈ lwG := lwT_in (i := 689) (by decide +kernel) (by decide +kernel)
theorem wi_X12_after : Cond.instanceMethod yX12_after ∈ lwG := lwT_in (i := 1850) (by decide +kernel) (by decide +kernel)
theorem wi_X12_askersOf : Cond.instanceMethod yX12_askersOf ∈ lwG := lwT_in (i := 1889) (by decide +kernel) (by decide +kernel)
theorem wi_X12_atom : Cond.instanceMethod yX12_atom ∈ lwG := lwT_in (i := 1770) (by decide +kernel) (by decide +kernel)
theorem wi_X12_badMatch : Cond.instanceMethod yX12_badMatch ∈ lwG := lwT_in (i := 2026) (by decide +kernel) (by decide +kernel)
theorem wi_X12_begins : Cond.instanceMethod yX12_begins ∈ lwG := lwT_in (i := 1721) (by decide +kernel) (by decide +kernel)
theorem wi_X12_by : Cond.instanceMethod yX12_by ∈ lwG := lwT_in (i := 2086) (by decide +kernel) (by decide +kernel)
theorem wi_X12_claims : Cond.instanceMethod yX12_claims ∈ lwG := lwT_in (i := 1998) (by decide +kernel) (by decide +kernel)
theorem wi_X12_comes : Cond.instanceMethod yX12_comes ∈ lwG := lwT_in (i := 1854) (by decide +kernel) (by decide +kernel)
theorem wi_X12_comesBack : Cond.instanceMethod yX12_comesBack ∈ lwG := lwT_in (i := 1869) (by decide +kernel) (by decide +kernel)
theorem wi_X12_draw : Cond.instanceMethod yX12_draw ∈ lwG := lwT_in (i := 1981) (by decide +kernel) (by decide +kernel)
theorem wi_X12_every : Cond.instanceMethod yX12_every ∈ lwG := lwT_in (i := 1766) (by decide +kernel) (by decide +kernel)
theorem wi_X12_fallsNow : Cond.instanceMethod yX12_fallsNow ∈ lwG := lwT_in (i := 2050) (by decide +kernel) (by decide +kernel)
theorem wi_X12_fewest : Cond.instanceMethod yX12_fewest ∈ lwG := lwT_in (i := 2091) (by decide +kernel) (by decide +kernel)
theorem wi_X12_figures : Cond.instanceMethod yX12_figures ∈ lwG := lwT_in (i := 1753) (by decide +kernel) (by decide +kernel)
theorem wi_X12_free : Cond.instanceMethod yX12_free ∈ lwG := lwT_in (i := 1838) (by decide +kernel) (by decide +kernel)
theorem wi_X12_gets : Cond.instanceMethod yX12_gets ∈ lwG := lwT_in (i := 1990) (by decide +kernel) (by decide +kernel)
theorem wi_X12_gives : Cond.instanceMethod yX12_gives ∈ lwG := lwT_in (i := 2006) (by decide +kernel) (by decide +kernel)
theorem wi_X12_goes : Cond.instanceMethod yX12_goes ∈ lwG := lwT_in (i := 1977) (by decide +kernel) (by decide +kernel)
theorem wi_X12_has : Cond.instanceMethod yX12_has ∈ lwG := lwT_in (i := 1810) (by decide +kernel) (by decide +kernel)
theorem wi_X12_insurers : Cond.instanceMethod yX12_insurers ∈ lwG := lwT_in (i := 1920) (by decide +kernel) (by decide +kernel)
theorem wi_X12_insurersOf : Cond.instanceMethod yX12_insurersOf ∈ lwG := lwT_in (i := 1924) (by decide +kernel) (by decide +kernel)
theorem wi_X12_insures : Cond.instanceMethod yX12_insures ∈ lwG := lwT_in (i := 1951) (by decide +kernel) (by decide +kernel)
theorem wi_X12_isMatch : Cond.instanceMethod yX12_isMatch ∈ lwG := lwT_in (i := 1916) (by decide +kernel) (by decide +kernel)
theorem wi_X12_isPerson : Cond.instanceMethod yX12_isPerson ∈ lwG := lwT_in (i := 1885) (by decide +kernel) (by decide +kernel)
theorem wi_X12_isSign : Cond.instanceMethod yX12_isSign ∈ lwG := lwT_in (i := 1775) (by decide +kernel) (by decide +kernel)
theorem wi_X12_isSteady : Cond.instanceMethod yX12_isSteady ∈ lwG := lwT_in (i := 2119) (by decide +kernel) (by decide +kernel)
theorem wi_X12_lawLine : Cond.instanceMethod yX12_lawLine ∈ lwG := lwT_in (i := 1741) (by decide +kernel) (by decide +kernel)
theorem wi_X12_leads : Cond.instanceMethod yX12_leads ∈ lwG := lwT_in (i := 2074) (by decide +kernel) (by decide +kernel)
theorem wi_X12_letter : Cond.instanceMethod yX12_letter ∈ lwG := lwT_in (i := 1733) (by decide +kernel) (by decide +kernel)
theorem wi_X12_likes : Cond.instanceMethod yX12_likes ∈ lwG := lwT_in (i := 1908) (by decide +kernel) (by decide +kernel)
theorem wi_X12_likings : Cond.instanceMethod yX12_likings ∈ lwG := lwT_in (i := 1815) (by decide +kernel) (by decide +kernel)
theorem wi_X12_logged : Cond.instanceMethod yX12_logged ∈ lwG := lwT_in (i := 2171) (by decide +kernel) (by decide +kernel)
theorem wi_X12_logs : Cond.instanceMethod yX12_logs ∈ lwG := lwT_in (i := 2010) (by decide +kernel) (by decide +kernel)
theorem wi_X12_mayWed : Cond.instanceMethod yX12_mayWed ∈ lwG := lwT_in (i := 2131) (by decide +kernel) (by decide +kernel)
theorem wi_X12_nextOf : Cond.instanceMethod yX12_nextOf ∈ lwG := lwT_in (i := 1994) (by decide +kernel) (by decide +kernel)
theorem wi_X12_of : Cond.instanceMethod yX12_of ∈ lwG := lwT_in (i := 1828) (by decide +kernel) (by decide +kernel)
theorem wi_X12_ofAside : Cond.instanceMethod yX12_ofAside ∈ lwG := lwT_in (i := 2095) (by decide +kernel) (by decide +kernel)
theorem wi_X12_ofMatch : Cond.instanceMethod yX12_ofMatch ∈ lwG := lwT_in (i := 1846) (by decide +kernel) (by decide +kernel)
theorem wi_X12_other : Cond.instanceMethod yX12_other ∈ lwG := lwT_in (i := 1824) (by decide +kernel) (by decide +kernel)
theorem wi_X12_pairsUp : Cond.instanceMethod yX12_pairsUp ∈ lwG := lwT_in (i := 2115) (by decide +kernel) (by decide +kernel)
theorem wi_X12_part : Cond.instanceMethod yX12_part ∈ lwG := lwT_in (i := 1789) (by decide +kernel) (by decide +kernel)
theorem wi_X12_passes : Cond.instanceMethod yX12_passes ∈ lwG := lwT_in (i := 2034) (by decide +kernel) (by decide +kernel)
theorem wi_X12_pays : Cond.instanceMethod yX12_pays ∈ lwG := lwT_in (i := 2002) (by decide +kernel) (by decide +kernel)
theorem wi_X12_personLine : Cond.instanceMethod yX12_personLine ∈ lwG := lwT_in (i := 1806) (by decide +kernel) (by decide +kernel)
theorem wi_X12_place : Cond.instanceMethod yX12_place ∈ lwG := lwT_in (i := 1757) (by decide +kernel) (by decide +kernel)
theorem wi_X12_plain : Cond.instanceMethod yX12_plain ∈ lwG := lwT_in (i := 1779) (by decide +kernel) (by decide +kernel)
theorem wi_X12_prefers : Cond.instanceMethod yX12_prefers ∈ lwG := lwT_in (i := 2123) (by decide +kernel) (by decide +kernel)
theorem wi_X12_premiums : Cond.instanceMethod yX12_premiums ∈ lwG := lwT_in (i := 1986) (by decide +kernel) (by decide +kernel)
theorem wi_X12_putsAside : Cond.instanceMethod yX12_putsAside ∈ lwG := lwT_in (i := 1717) (by decide +kernel) (by decide +kernel)
theorem wi_X12_ratherOf : Cond.instanceMethod yX12_ratherOf ∈ lwG := lwT_in (i := 2103) (by decide +kernel) (by decide +kernel)
theorem wi_X12_read : Cond.instanceMethod yX12_read ∈ lwG := lwT_in (i := 1725) (by decide +kernel) (by decide +kernel)
theorem wi_X12_remembers : Cond.instanceMethod yX12_remembers ∈ lwG := lwT_in (i := 1939) (by decide +kernel) (by decide +kernel)
theorem wi_X12_ringOf : Cond.instanceMethod yX12_ringOf ∈ lwG := lwT_in (i := 2066) (by decide +kernel) (by decide +kernel)
theorem wi_X12_ruinedOnes : Cond.instanceMethod yX12_ruinedOnes ∈ lwG := lwT_in (i := 2159) (by decide +kernel) (by decide +kernel)
theorem wi_X12_says : Cond.instanceMethod yX12_says ∈ lwG := lwT_in (i := 1746) (by decide +kernel) (by decide +kernel)
theorem wi_X12_skip : Cond.instanceMethod yX12_skip ∈ lwG := lwT_in (i := 1729) (by decide +kernel) (by decide +kernel)
theorem wi_X12_some : Cond.instanceMethod yX12_some ∈ lwG := lwT_in (i := 1762) (by decide +kernel) (by decide +kernel)
theorem wi_X12_sum : Cond.instanceMethod yX12_sum ∈ lwG := lwT_in (i := 1785) (by decide +kernel) (by decide +kernel)
theorem wi_X12_tells : Cond.instanceMethod yX12_tells ∈ lwG := lwT_in (i := 1863) (by decide +kernel) (by decide +kernel)
theorem wi_X12_told : Cond.instanceMethod yX12_told ∈ lwG := lwT_in (i := 1858) (by decide +kernel) (by decide +kernel)
theorem wi_X12_told_ : Cond.instanceMethod yX12_told_ ∈ lwG := lwT_in (i := 2139) (by decide +kernel) (by decide +kernel)
theorem wi_X12_townLine : Cond.instanceMethod yX12_townLine ∈ lwG := lwT_in (i := 1801) (by decide +kernel) (by decide +kernel)
theorem wi_X12_turnsBy : Cond.instanceMethod yX12_turnsBy ∈ lwG := lwT_in (i := 1931) (by decide +kernel) (by decide +kernel)
theorem wi_X12_two : Cond.instanceMethod yX12_two ∈ lwG := lwT_in (i := 1904) (by decide +kernel) (by decide +kernel)
theorem wi_X12_wealths : Cond.instanceMethod yX12_wealths ∈ lwG := lwT_in (i := 1896) (by decide +kernel) (by decide +kernel)
theorem wi_X12_wedLine : Cond.instanceMethod yX12_wedLine ∈ lwG := lwT_in (i := 1834) (by decide +kernel) (by decide +kernel)
theorem wi_X12_wedOnes : Cond.instanceMethod yX12_wedOnes ∈ lwG := lwT_in (i := 2199) (by decide +kernel) (by decide +kernel)
theorem wi_X12_wedTo : Cond.instanceMethod yX12_wedTo ∈ lwG := lwT_in (i := 1842) (by decide +kernel) (by decide +kernel)
theorem wi_X12_who : Cond.instanceMethod yX12_who ∈ lwG := lwT_in (i := 1819) (by decide +kernel) (by decide +kernel)
theorem wi_X12_with : Cond.instanceMethod yX12_with ∈ lwG := lwT_in (i := 2143) (by decide +kernel) (by decide +kernel)
theorem wi_X12_wrong : Cond.instanceMethod yX12_wrong ∈ lwG := lwT_in (i := 1737) (by decide +kernel) (by decide +kernel)
theorem wi_X1_isSpelt : Cond.instanceMethod yX1_isSpelt ∈ lwG := lwT_in (i := 726) (by decide +kernel) (by decide +kernel)
theorem wi_X2_addCode : Cond.instanceMethod yX2_addCode ∈ lwG := lwT_in (i := 854) (by decide +kernel) (by decide +kernel)
theorem wi_X2_addLine : Cond.instanceMethod yX2_addLine ∈ lwG := lwT_in (i := 879) (by decide +kernel) (by decide +kernel)
theorem wi_X2_clearLines : Cond.instanceMethod yX2_clearLines ∈ lwG := lwT_in (i := 1061) (by decide +kernel) (by decide +kernel)
theorem wi_X2_copyAll : Cond.instanceMethod yX2_copyAll ∈ lwG := lwT_in (i := 647) (by decide +kernel) (by decide +kernel)
theorem wi_X2_isMet : Cond.instanceMethod yX2_isMet ∈ lwG := lwT_in (i := 1168) (by decide +kernel) (by decide +kernel)
theorem wi_X2_turnsBy : Cond.instanceMethod yX2_turnsBy ∈ lwG := lwT_in (i := 1162) (by decide +kernel) (by decide +kernel)
theorem wi_X3_readsAll : Cond.instanceMethod yX3_readsAll ∈ lwG := lwT_in (i := 831) (by decide +kernel) (by decide +kernel)
theorem wi_X3_readsAtom : Cond.instanceMethod yX3_readsAtom ∈ lwG := lwT_in (i := 835) (by decide +kernel) (by decide +kernel)
theorem wi_X3_readsEither : Cond.instanceMethod yX3_readsEither ∈ lwG := lwT_in (i := 827) (by decide +kernel) (by decide +kernel)
theorem wi_X3_readsLine : Cond.instanceMethod yX3_readsLine ∈ lwG := lwT_in (i := 794) (by decide +kernel) (by decide +kernel)
theorem wi_X3_readsNot : Cond.instanceMethod yX3_readsNot ∈ lwG := lwT_in (i := 851) (by decide +kernel) (by decide +kernel)
theorem wi_X3_readsSum : Cond.instanceMethod yX3_readsSum ∈ lwG := lwT_in (i := 863) (by decide +kernel) (by decide +kernel)
theorem wi_X4_happyBehindMonth : Cond.instanceMethod yX4_happyBehindMonth ∈ lwG := lwT_in (i := 1360) (by decide +kernel) (by decide +kernel)
theorem wi_X4_happyTurned : Cond.instanceMethod yX4_happyTurned ∈ lwG := lwT_in (i := 1297) (by decide +kernel) (by decide +kernel)
theorem wi_X4_passTime : Cond.instanceMethod yX4_passTime ∈ lwG := lwT_in (i := 1365) (by decide +kernel) (by decide +kernel)
theorem wi_X4_valueOf : Cond.instanceMethod yX4_valueOf ∈ lwG := lwT_in (i := 1171) (by decide +kernel) (by decide +kernel)
theorem wi_X5_areLovers : Cond.instanceMethod yX5_areLovers ∈ lwG := lwT_in (i := 577) (by decide +kernel) (by decide +kernel)
theorem wi_X5_bestFor : Cond.instanceMethod yX5_bestFor ∈ lwG := lwT_in (i := 1324) (by decide +kernel) (by decide +kernel)
theorem wi_X5_countIfSteady : Cond.instanceMethod yX5_countIfSteady ∈ lwG := lwT_in (i := 1497) (by decide +kernel) (by decide +kernel)
theorem wi_X5_firstLovers : Cond.instanceMethod yX5_firstLovers ∈ lwG := lwT_in (i := 572) (by decide +kernel) (by decide +kernel)
theorem wi_X5_firstWithout : Cond.instanceMethod yX5_firstWithout ∈ lwG := lwT_in (i := 1493) (by decide +kernel) (by decide +kernel)
theorem wi_X5_loverPairs : Cond.instanceMethod yX5_loverPairs ∈ lwG := lwT_in (i := 594) (by decide +kernel) (by decide +kernel)
theorem wi_X5_mostWeddings : Cond.instanceMethod yX5_mostWeddings ∈ lwG := lwT_in (i := 602) (by decide +kernel) (by decide +kernel)
theorem wi_X5_pairUp : Cond.instanceMethod yX5_pairUp ∈ lwG := lwT_in (i := 1489) (by decide +kernel) (by decide +kernel)
theorem wi_X5_preferred : Cond.instanceMethod yX5_preferred ∈ lwG := lwT_in (i := 581) (by decide +kernel) (by decide +kernel)
theorem wi_X5_steadyPartner : Cond.instanceMethod yX5_steadyPartner ∈ lwG := lwT_in (i := 1510) (by decide +kernel) (by decide +kernel)
theorem wi_X5_steadyWays : Cond.instanceMethod yX5_steadyWays ∈ lwG := lwT_in (i := 1483) (by decide +kernel) (by decide +kernel)
theorem wi_X5_tryPair : Cond.instanceMethod yX5_tryPair ∈ lwG := lwT_in (i := 1506) (by decide +kernel) (by decide +kernel)
theorem wi_X5_wouldLeaveFor : Cond.instanceMethod yX5_wouldLeaveFor ∈ lwG := lwT_in (i := 1501) (by decide +kernel) (by decide +kernel)
theorem wi_X6_at : Cond.instanceMethod yX6_at ∈ lwG := lwT_in (i := 509) (by decide +kernel) (by decide +kernel)
theorem wi_X6_copyAll : Cond.instanceMethod yX6_copyAll ∈ lwG := lwT_in (i := 478) (by decide +kernel) (by decide +kernel)
theorem wi_X6_put : Cond.instanceMethod yX6_put ∈ lwG := lwT_in (i := 450) (by decide +kernel) (by decide +kernel)
theorem wi_X6_putAll : Cond.instanceMethod yX6_putAll ∈ lwG := lwT_in (i := 1453) (by decide +kernel) (by decide +kernel)
theorem wi_X7_addThing : Cond.instanceMethod yX7_addThing ∈ lwG := lwT_in (i := 715) (by decide +kernel) (by decide +kernel)
theorem wi_X7_advance : Cond.instanceMethod yX7_advance ∈ lwG := lwT_in (i := 785) (by decide +kernel) (by decide +kernel)
theorem wi_X7_cut : Cond.instanceMethod yX7_cut ∈ lwG := lwT_in (i := 700) (by decide +kernel) (by decide +kernel)
theorem wi_X7_linesOf : Cond.instanceMethod yX7_linesOf ∈ lwG := lwT_in (i := 695) (by decide +kernel) (by decide +kernel)
theorem wi_X7_needs : Cond.instanceMethod yX7_needs ∈ lwG := lwT_in (i := 847) (by decide +kernel) (by decide +kernel)
theorem wi_X7_numberAt : Cond.instanceMethod yX7_numberAt ∈ lwG := lwT_in (i := 782) (by decide +kernel) (by decide +kernel)
theorem wi_X7_refuse : Cond.instanceMethod yX7_refuse ∈ lwG := lwT_in (i := 804) (by decide +kernel) (by decide +kernel)
theorem wi_X7_stopOf : Cond.instanceMethod yX7_stopOf ∈ lwG := lwT_in (i := 704) (by decide +kernel) (by decide +kernel)
theorem wi_X7_takeNumber : Cond.instanceMethod yX7_takeNumber ∈ lwG := lwT_in (i := 814) (by decide +kernel) (by decide +kernel)
theorem wi_X7_takes : Cond.instanceMethod yX7_takes ∈ lwG := lwT_in (i := 823) (by decide +kernel) (by decide +kernel)
theorem wi_X8_addMembers : Cond.instanceMethod yX8_addMembers ∈ lwG := lwT_in (i := 1548) (by decide +kernel) (by decide +kernel)
theorem wi_X8_bestParter : Cond.instanceMethod yX8_bestParter ∈ lwG := lwT_in (i := 1560) (by decide +kernel) (by decide +kernel)
theorem wi_X8_fits : Cond.instanceMethod yX8_fits ∈ lwG := lwT_in (i := 1543) (by decide +kernel) (by decide +kernel)
theorem wi_X8_fitting : Cond.instanceMethod yX8_fitting ∈ lwG := lwT_in (i := 1537) (by decide +kernel) (by decide +kernel)
theorem wi_X8_inAll : Cond.instanceMethod yX8_inAll ∈ lwG := lwT_in (i := 1533) (by decide +kernel) (by decide +kernel)
theorem wi_X8_reads : Cond.instanceMethod yX8_reads ∈ lwG := lwT_in (i := 1526) (by decide +kernel) (by decide +kernel)
theorem wi_X9_addAsked : Cond.instanceMethod yX9_addAsked ∈ lwG := lwT_in (i := 935) (by decide +kernel) (by decide +kernel)
theorem wi_X9_addMatch : Cond.instanceMethod yX9_addMatch ∈ lwG := lwT_in (i := 951) (by decide +kernel) (by decide +kernel)
theorem wi_X9_addPerson : Cond.instanceMethod yX9_addPerson ∈ lwG := lwT_in (i := 902) (by decide +kernel) (by decide +kernel)
theorem wi_X9_addToLog : Cond.instanceMethod yX9_addToLog ∈ lwG := lwT_in (i := 1305) (by decide +kernel) (by decide +kernel)
theorem wi_X9_askersOf : Cond.instanceMethod yX9_askersOf ∈ lwG := lwT_in (i := 615) (by decide +kernel) (by decide +kernel)
theorem wi_X9_changeHappy : Cond.instanceMethod yX9_changeHappy ∈ lwG := lwT_in (i := 1237) (by decide +kernel) (by decide +kernel)
theorem wi_X9_comesTo : Cond.instanceMethod yX9_comesTo ∈ lwG := lwT_in (i := 1439) (by decide +kernel) (by decide +kernel)
theorem wi_X9_copyAll : Cond.instanceMethod yX9_copyAll ∈ lwG := lwT_in (i := 470) (by decide +kernel) (by decide +kernel)
theorem wi_X9_copyPurses : Cond.instanceMethod yX9_copyPurses ∈ lwG := lwT_in (i := 474) (by decide +kernel) (by decide +kernel)
theorem wi_X9_endMatch : Cond.instanceMethod yX9_endMatch ∈ lwG := lwT_in (i := 1267) (by decide +kernel) (by decide +kernel)
theorem wi_X9_firstOf : Cond.instanceMethod yX9_firstOf ∈ lwG := lwT_in (i := 505) (by decide +kernel) (by decide +kernel)
theorem wi_X9_give : Cond.instanceMethod yX9_give ∈ lwG := lwT_in (i := 549) (by decide +kernel) (by decide +kernel)
theorem wi_X9_hasPerson : Cond.instanceMethod yX9_hasPerson ∈ lwG := lwT_in (i := 916) (by decide +kernel) (by decide +kernel)
theorem wi_X9_insurersOf : Cond.instanceMethod yX9_insurersOf ∈ lwG := lwT_in (i := 500) (by decide +kernel) (by decide +kernel)
theorem wi_X9_insurersOfPair : Cond.instanceMethod yX9_insurersOfPair ∈ lwG := lwT_in (i := 517) (by decide +kernel) (by decide +kernel)
theorem wi_X9_isLeastOfRing : Cond.instanceMethod yX9_isLeastOfRing ∈ lwG := lwT_in (i := 565) (by decide +kernel) (by decide +kernel)
theorem wi_X9_isOver : Cond.instanceMethod yX9_isOver ∈ lwG := lwT_in (i := 492) (by decide +kernel) (by decide +kernel)
theorem wi_X9_isRuined : Cond.instanceMethod yX9_isRuined ∈ lwG := lwT_in (i := 534) (by decide +kernel) (by decide +kernel)
theorem wi_X9_isWed : Cond.instanceMethod yX9_isWed ∈ lwG := lwT_in (i := 606) (by decide +kernel) (by decide +kernel)
theorem wi_X9_leaners : Cond.instanceMethod yX9_leaners ∈ lwG := lwT_in (i := 1434) (by decide +kernel) (by decide +kernel)
theorem wi_X9_likingOf : Cond.instanceMethod yX9_likingOf ∈ lwG := lwT_in (i := 589) (by decide +kernel) (by decide +kernel)
theorem wi_X9_logRows : Cond.instanceMethod yX9_logRows ∈ lwG := lwT_in (i := 675) (by decide +kernel) (by decide +kernel)
theorem wi_X9_logged : Cond.instanceMethod yX9_logged ∈ lwG := lwT_in (i := 1600) (by decide +kernel) (by decide +kernel)
theorem wi_X9_loggedClaims : Cond.instanceMethod yX9_loggedClaims ∈ lwG := lwT_in (i := 1604) (by decide +kernel) (by decide +kernel)
theorem wi_X9_loggedPaid : Cond.instanceMethod yX9_loggedPaid ∈ lwG := lwT_in (i := 1595) (by decide +kernel) (by decide +kernel)
theorem wi_X9_lookAt : Cond.instanceMethod yX9_lookAt ∈ lwG := lwT_in (i := 1157) (by decide +kernel) (by decide +kernel)
theorem wi_X9_passMatch : Cond.instanceMethod yX9_passMatch ∈ lwG := lwT_in (i := 1289) (by decide +kernel) (by decide +kernel)
theorem wi_X9_passMonth : Cond.instanceMethod yX9_passMonth ∈ lwG := lwT_in (i := 1283) (by decide +kernel) (by decide +kernel)
theorem wi_X9_payClaim : Cond.instanceMethod yX9_payClaim ∈ lwG := lwT_in (i := 496) (by decide +kernel) (by decide +kernel)
theorem wi_X9_payOut : Cond.instanceMethod yX9_payOut ∈ lwG := lwT_in (i := 531) (by decide +kernel) (by decide +kernel)
theorem wi_X9_payPremiums : Cond.instanceMethod yX9_payPremiums ∈ lwG := lwT_in (i := 1293) (by decide +kernel) (by decide +kernel)
theorem wi_X9_richestPerson : Cond.instanceMethod yX9_richestPerson ∈ lwG := lwT_in (i := 626) (by decide +kernel) (by decide +kernel)
theorem wi_X9_ringCount : Cond.instanceMethod yX9_ringCount ∈ lwG := lwT_in (i := 556) (by decide +kernel) (by decide +kernel)
theorem wi_X9_ringSteps : Cond.instanceMethod yX9_ringSteps ∈ lwG := lwT_in (i := 560) (by decide +kernel) (by decide +kernel)
theorem wi_X9_ruinIfShort : Cond.instanceMethod yX9_ruinIfShort ∈ lwG := lwT_in (i := 539) (by decide +kernel) (by decide +kernel)
theorem wi_X9_secondOf : Cond.instanceMethod yX9_secondOf ∈ lwG := lwT_in (i := 513) (by decide +kernel) (by decide +kernel)
theorem wi_X9_setLiking : Cond.instanceMethod yX9_setLiking ∈ lwG := lwT_in (i := 923) (by decide +kernel) (by decide +kernel)
theorem wi_X9_shareOf : Cond.instanceMethod yX9_shareOf ∈ lwG := lwT_in (i := 1103) (by decide +kernel) (by decide +kernel)
theorem wi_X9_spouseOf : Cond.instanceMethod yX9_spouseOf ∈ lwG := lwT_in (i := 585) (by decide +kernel) (by decide +kernel)
theorem wi_X9_take : Cond.instanceMethod yX9_take ∈ lwG := lwT_in (i := 543) (by decide +kernel) (by decide +kernel)
theorem wi_X9_wealthOfAll : Cond.instanceMethod yX9_wealthOfAll ∈ lwG := lwT_in (i := 666) (by decide +kernel) (by decide +kernel)
theorem wi_X9_wedPeople : Cond.instanceMethod yX9_wedPeople ∈ lwG := lwT_in (i := 670) (by decide +kernel) (by decide +kernel)
theorem wk_J6_265 : Cond.constant RJ6 265 1431655765 ∈ lwG := lwT_in (i := 526) (by decide +kernel) (by decide +kernel)
theorem wk_J6_266 : Cond.constant RJ6 266 858993459 ∈ lwG := lwT_in (i := 527) (by decide +kernel) (by decide +kernel)
theorem wk_J6_267 : Cond.constant RJ6 267 252645135 ∈ lwG := lwT_in (i := 528) (by decide +kernel) (by decide +kernel)
theorem wk_X12_277 : Cond.constant RX12 277 1103515245 ∈ lwG := lwT_in (i := 1983) (by decide +kernel) (by decide +kernel)
theorem wk_X12_341 : Cond.constant RX12 341 2000000000 ∈ lwG := lwT_in (i := 2088) (by decide +kernel) (by decide +kernel)
theorem wk_X9_167 : Cond.constant RX9 167 1103515245 ∈ lwG := lwT_in (i := 1286) (by decide +kernel) (by decide +kernel)
theorem wl_J0_J0_charAt_5068e : Cond.selects RJ0 yJ0_charAt_5068e yJ0_charAt_5068e ∈ lwG := lwT_in (i := 741) (by decide +kernel) (by decide +kernel)
theorem wl_J0_J0_coder_7d493 : Cond.selects RJ0 yJ0_coder_7d493 yJ0_coder_7d493 ∈ lwG := lwT_in (i := 735) (by decide +kernel) (by decide +kernel)
theorem wl_J0_J0_isLatin1_aae02 : Cond.selects RJ0 yJ0_isLatin1_aae02 yJ0_isLatin1_aae02 ∈ lwG := lwT_in (i := 745) (by decide +kernel) (by decide +kernel)
theorem wl_J0_J0_length_8abf5 : Cond.selects RJ0 yJ0_length_8abf5 yJ0_length_8abf5 ∈ lwG := lwT_in (i := 731) (by decide +kernel) (by decide +kernel)
theorem wl_X0_X0_addGifts : Cond.selects RX0 yX0_addGifts yX0_addGifts ∈ lwG := lwP_in (i := 37) (by decide +kernel) (by decide +kernel)
theorem wl_X0_X0_claimAll : Cond.selects RX0 yX0_claimAll yX0_claimAll ∈ lwG := lwP_in (i := 1) (by decide +kernel) (by decide +kernel)
theorem wl_X0_X0_claimQuarrels : Cond.selects RX0 yX0_claimQuarrels yX0_claimQuarrels ∈ lwG := lwT_in (i := 1389) (by decide +kernel) (by decide +kernel)
theorem wl_X0_X0_fallen : Cond.selects RX0 yX0_fallen yX0_fallen ∈ lwG := lwT_in (i := 467) (by decide +kernel) (by decide +kernel)
theorem wl_X0_X0_fewestGifts : Cond.selects RX0 yX0_fewestGifts yX0_fewestGifts ∈ lwG := lwT_in (i := 1450) (by decide +kernel) (by decide +kernel)
theorem wl_X0_X0_firstClaim : Cond.selects RX0 yX0_firstClaim yX0_firstClaim ∈ lwG := lwT_in (i := 1378) (by decide +kernel) (by decide +kernel)
theorem wl_X0_X0_happyAhead : Cond.selects RX0 yX0_happyAhead yX0_happyAhead ∈ lwG := lwT_in (i := 1357) (by decide +kernel) (by decide +kernel)
theorem wl_X0_X0_happyNext : Cond.selects RX0 yX0_happyNext yX0_happyNext ∈ lwG := lwT_in (i := 1345) (by decide +kernel) (by decide +kernel)
theorem wl_X0_X0_leastWealth : Cond.selects RX0 yX0_leastWealth yX0_leastWealth ∈ lwG := lwT_in (i := 1413) (by decide +kernel) (by decide +kernel)
theorem wl_X0_X0_lossOf : Cond.selects RX0 yX0_lossOf yX0_lossOf ∈ lwG := lwT_in (i := 1400) (by decide +kernel) (by decide +kernel)
theorem wl_X0_X0_passCosts : Cond.selects RX0 yX0_passCosts yX0_passCosts ∈ lwG := lwP_in (i := 38) (by decide +kernel) (by decide +kernel)
theorem wl_X0_X0_ruinedInTrial : Cond.selects RX0 yX0_ruinedInTrial yX0_ruinedInTrial ∈ lwG := lwT_in (i := 1578) (by decide +kernel) (by decide +kernel)
theorem wl_X0_X0_tryMonths : Cond.selects RX0 yX0_tryMonths yX0_tryMonths ∈ lwG := lwT_in (i := 1573) (by decide +kernel) (by decide +kernel)
theorem wl_X0_X0_turnsNow : Cond.selects RX0 yX0_turnsNow yX0_turnsNow ∈ lwG := lwT_in (i := 1154) (by decide +kernel) (by decide +kernel)
theorem wl_X10_X10_readsLikes : Cond.selects RX10 yX10_readsLikes yX10_readsLikes ∈ lwG := lwP_in (i := 18) (by decide +kernel) (by decide +kernel)
theorem wl_X10_X10_readsPerson : Cond.selects RX10 yX10_readsPerson yX10_readsPerson ∈ lwG := lwP_in (i := 17) (by decide +kernel) (by decide +kernel)
theorem wl_X10_X10_readsSetting : Cond.selects RX10 yX10_readsSetting yX10_readsSetting ∈ lwG := lwP_in (i := 22) (by decide +kernel) (by decide +kernel)
theorem wl_X10_X10_readsTwo : Cond.selects RX10 yX10_readsTwo yX10_readsTwo ∈ lwG := lwP_in (i := 20) (by decide +kernel) (by decide +kernel)
theorem wl_X10_X10_readsWed : Cond.selects RX10 yX10_readsWed yX10_readsWed ∈ lwG := lwP_in (i := 21) (by decide +kernel) (by decide +kernel)
theorem wl_X10_X10_takeSomebody : Cond.selects RX10 yX10_takeSomebody yX10_takeSomebody ∈ lwG := lwP_in (i := 19) (by decide +kernel) (by decide +kernel)
theorem wl_X11_X11_checkGoesOn : Cond.selects RX11 yX11_checkGoesOn yX11_checkGoesOn ∈ lwG := lwP_in (i := 30) (by decide +kernel) (by decide +kernel)
theorem wl_X11_X11_checkInsurer : Cond.selects RX11 yX11_checkInsurer yX11_checkInsurer ∈ lwG := lwP_in (i := 29) (by decide +kernel) (by decide +kernel)
theorem wl_X11_X11_checkMatch : Cond.selects RX11 yX11_checkMatch yX11_checkMatch ∈ lwG := lwP_in (i := 26) (by decide +kernel) (by decide +kernel)
theorem wl_X11_X11_checkNumber : Cond.selects RX11 yX11_checkNumber yX11_checkNumber ∈ lwG := lwP_in (i := 31) (by decide +kernel) (by decide +kernel)
theorem wl_X11_X11_checkPerson : Cond.selects RX11 yX11_checkPerson yX11_checkPerson ∈ lwG := lwP_in (i := 24) (by decide +kernel) (by decide +kernel)
theorem wl_X11_X11_checkQuarrel : Cond.selects RX11 yX11_checkQuarrel yX11_checkQuarrel ∈ lwG := lwP_in (i := 35) (by decide +kernel) (by decide +kernel)
theorem wl_X11_X11_checkTwo : Cond.selects RX11 yX11_checkTwo yX11_checkTwo ∈ lwG := lwP_in (i := 25) (by decide +kernel) (by decide +kernel)
theorem wl_X11_X11_feedNumber : Cond.selects RX11 yX11_feedNumber yX11_feedNumber ∈ lwG := lwP_in (i := 0) (by decide +kernel) (by decide +kernel)
theorem wl_X11_X11_forgetActs : Cond.selects RX11 yX11_forgetActs yX11_forgetActs ∈ lwG := lwP_in (i := 9) (by decide +kernel) (by decide +kernel)
theorem wl_X11_X11_readTold : Cond.selects RX11 yX11_readTold yX11_readTold ∈ lwG := lwP_in (i := 44) (by decide +kernel) (by decide +kernel)
theorem wl_X11_X11_remember : Cond.selects RX11 yX11_remember yX11_remember ∈ lwG := lwP_in (i := 28) (by decide +kernel) (by decide +kernel)
theorem wl_X11_X11_rememberedTown : Cond.selects RX11 yX11_rememberedTown yX11_rememberedTown ∈ lwG := lwP_in (i := 8) (by decide +kernel) (by decide +kernel)
theorem wl_X11_X11_useTapeUp : Cond.selects RX11 yX11_useTapeUp yX11_useTapeUp ∈ lwG := lwP_in (i := 10) (by decide +kernel) (by decide +kernel)
theorem wl_X12_X12_after : Cond.selects RX12 yX12_after yX12_after ∈ lwG := lwP_in (i := 75) (by decide +kernel) (by decide +kernel)
theorem wl_X12_X12_askersOf : Cond.selects RX12 yX12_askersOf yX12_askersOf ∈ lwG := lwP_in (i := 81) (by decide +kernel) (by decide +kernel)
theorem wl_X12_X12_atom : Cond.selects RX12 yX12_atom yX12_atom ∈ lwG := lwP_in (i := 59) (by decide +kernel) (by decide +kernel)
theorem wl_X12_X12_badMatch : Cond.selects RX12 yX12_badMatch yX12_badMatch ∈ lwG := lwP_in (i := 100) (by decide +kernel) (by decide +kernel)
theorem wl_X12_X12_begins : Cond.selects RX12 yX12_begins yX12_begins ∈ lwG := lwP_in (i := 48) (by decide +kernel) (by decide +kernel)
theorem wl_X12_X12_by : Cond.selects RX12 yX12_by yX12_by ∈ lwG := lwP_in (i := 105) (by decide +kernel) (by decide +kernel)
theorem wl_X12_X12_claims : Cond.selects RX12 yX12_claims yX12_claims ∈ lwG := lwP_in (i := 96) (by decide +kernel) (by decide +kernel)
theorem wl_X12_X12_comes : Cond.selects RX12 yX12_comes yX12_comes ∈ lwG := lwP_in (i := 76) (by decide +kernel) (by decide +kernel)
theorem wl_X12_X12_comesBack : Cond.selects RX12 yX12_comesBack yX12_comesBack ∈ lwG := lwP_in (i := 79) (by decide +kernel) (by decide +kernel)
theorem wl_X12_X12_draw : Cond.selects RX12 yX12_draw yX12_draw ∈ lwG := lwP_in (i := 92) (by decide +kernel) (by decide +kernel)
theorem wl_X12_X12_every : Cond.selects RX12 yX12_every yX12_every ∈ lwG := lwP_in (i := 58) (by decide +kernel) (by decide +kernel)
theorem wl_X12_X12_fallsNow : Cond.selects RX12 yX12_fallsNow yX12_fallsNow ∈ lwG := lwP_in (i := 102) (by decide +kernel) (by decide +kernel)
theorem wl_X12_X12_fewest : Cond.selects RX12 yX12_fewest yX12_fewest ∈ lwG := lwP_in (i := 106) (by decide +kernel) (by decide +kernel)
theorem wl_X12_X12_figures : Cond.selects RX12 yX12_figures yX12_figures ∈ lwG := lwP_in (i := 55) (by decide +kernel) (by decide +kernel)
theorem wl_X12_X12_free : Cond.selects RX12 yX12_free yX12_free ∈ lwG := lwP_in (i := 72) (by decide +kernel) (by decide +kernel)
theorem wl_X12_X12_gets : Cond.selects RX12 yX12_gets yX12_gets ∈ lwG := lwP_in (i := 94) (by decide +kernel) (by decide +kernel)
theorem wl_X12_X12_gives : Cond.selects RX12 yX12_gives yX12_gives ∈ lwG := lwP_in (i := 98) (by decide +kernel) (by decide +kernel)
theorem wl_X12_X12_goes : Cond.selects RX12 yX12_goes yX12_goes ∈ lwG := lwP_in (i := 91) (by decide +kernel) (by decide +kernel)
theorem wl_X12_X12_has : Cond.selects RX12 yX12_has yX12_has ∈ lwG := lwP_in (i := 66) (by decide +kernel) (by decide +kernel)
theorem wl_X12_X12_insurers : Cond.selects RX12 yX12_insurers yX12_insurers ∈ lwG := lwP_in (i := 86) (by decide +kernel) (by decide +kernel)
theorem wl_X12_X12_insurersOf : Cond.selects RX12 yX12_insurersOf yX12_insurersOf ∈ lwG := lwP_in (i := 87) (by decide +kernel) (by decide +kernel)
theorem wl_X12_X12_insures : Cond.selects RX12 yX12_insures yX12_insures ∈ lwG := lwP_in (i := 90) (by decide +kernel) (by decide +kernel)
theorem wl_X12_X12_isMatch : Cond.selects RX12 yX12_isMatch yX12_isMatch ∈ lwG := lwP_in (i := 85) (by decide +kernel) (by decide +kernel)
theorem wl_X12_X12_isPerson : Cond.selects RX12 yX12_isPerson yX12_isPerson ∈ lwG := lwP_in (i := 80) (by decide +kernel) (by decide +kernel)
theorem wl_X12_X12_isSign : Cond.selects RX12 yX12_isSign yX12_isSign ∈ lwG := lwP_in (i := 60) (by decide +kernel) (by decide +kernel)
theorem wl_X12_X12_isSteady : Cond.selects RX12 yX12_isSteady yX12_isSteady ∈ lwG := lwP_in (i := 110) (by decide +kernel) (by decide +kernel)
theorem wl_X12_X12_lawLine : Cond.selects RX12 yX12_lawLine yX12_lawLine ∈ lwG := lwP_in (i := 53) (by decide +kernel) (by decide +kernel)
theorem wl_X12_X12_leads : Cond.selects RX12 yX12_leads yX12_leads ∈ lwG := lwP_in (i := 104) (by decide +kernel) (by decide +kernel)
theorem wl_X12_X12_letter : Cond.selects RX12 yX12_letter yX12_letter ∈ lwG := lwP_in (i := 51) (by decide +kernel) (by decide +kernel)
theorem wl_X12_X12_likes : Cond.selects RX12 yX12_likes yX12_likes ∈ lwG := lwP_in (i := 84) (by decide +kernel) (by decide +kernel)
theorem wl_X12_X12_likings : Cond.selects RX12 yX12_likings yX12_likings ∈ lwG := lwP_in (i := 67) (by decide +kernel) (by decide +kernel)
theorem wl_X12_X12_logged : Cond.selects RX12 yX12_logged yX12_logged ∈ lwG := lwP_in (i := 116) (by decide +kernel) (by decide +kernel)
theorem wl_X12_X12_logs : Cond.selects RX12 yX12_logs yX12_logs ∈ lwG := lwP_in (i := 99) (by decide +kernel) (by decide +kernel)
theorem wl_X12_X12_mayWed : Cond.selects RX12 yX12_mayWed yX12_mayWed ∈ lwG := lwP_in (i := 112) (by decide +kernel) (by decide +kernel)
theorem wl_X12_X12_nextOf : Cond.selects RX12 yX12_nextOf yX12_nextOf ∈ lwG := lwP_in (i := 95) (by decide +kernel) (by decide +kernel)
theorem wl_X12_X12_of : Cond.selects RX12 yX12_of yX12_of ∈ lwG := lwP_in (i := 70) (by decide +kernel) (by decide +kernel)
theorem wl_X12_X12_ofAside : Cond.selects RX12 yX12_ofAside yX12_ofAside ∈ lwG := lwP_in (i := 107) (by decide +kernel) (by decide +kernel)
theorem wl_X12_X12_ofMatch : Cond.selects RX12 yX12_ofMatch yX12_ofMatch ∈ lwG := lwP_in (i := 74) (by decide +kernel) (by decide +kernel)
theorem wl_X12_X12_other : Cond.selects RX12 yX12_other yX12_other ∈ lwG := lwP_in (i := 69) (by decide +kernel) (by decide +kernel)
theorem wl_X12_X12_pairsUp : Cond.selects RX12 yX12_pairsUp yX12_pairsUp ∈ lwG := lwP_in (i := 109) (by decide +kernel) (by decide +kernel)
theorem wl_X12_X12_part : Cond.selects RX12 yX12_part yX12_part ∈ lwG := lwP_in (i := 63) (by decide +kernel) (by decide +kernel)
theorem wl_X12_X12_passes : Cond.selects RX12 yX12_passes yX12_passes ∈ lwG := lwP_in (i := 101) (by decide +kernel) (by decide +kernel)
theorem wl_X12_X12_pays : Cond.selects RX12 yX12_pays yX12_pays ∈ lwG := lwP_in (i := 97) (by decide +kernel) (by decide +kernel)
theorem wl_X12_X12_personLine : Cond.selects RX12 yX12_personLine yX12_personLine ∈ lwG := lwP_in (i := 65) (by decide +kernel) (by decide +kernel)
theorem wl_X12_X12_place : Cond.selects RX12 yX12_place yX12_place ∈ lwG := lwP_in (i := 56) (by decide +kernel) (by decide +kernel)
theorem wl_X12_X12_plain : Cond.selects RX12 yX12_plain yX12_plain ∈ lwG := lwP_in (i := 61) (by decide +kernel) (by decide +kernel)
theorem wl_X12_X12_prefers : Cond.selects RX12 yX12_prefers yX12_prefers ∈ lwG := lwP_in (i := 111) (by decide +kernel) (by decide +kernel)
theorem wl_X12_X12_premiums : Cond.selects RX12 yX12_premiums yX12_premiums ∈ lwG := lwP_in (i := 93) (by decide +kernel) (by decide +kernel)
theorem wl_X12_X12_putsAside : Cond.selects RX12 yX12_putsAside yX12_putsAside ∈ lwG := lwP_in (i := 47) (by decide +kernel) (by decide +kernel)
theorem wl_X12_X12_ratherOf : Cond.selects RX12 yX12_ratherOf yX12_ratherOf ∈ lwG := lwP_in (i := 108) (by decide +kernel) (by decide +kernel)
theorem wl_X12_X12_read : Cond.selects RX12 yX12_read yX12_read ∈ lwG := lwP_in (i := 49) (by decide +kernel) (by decide +kernel)
theorem wl_X12_X12_remembers : Cond.selects RX12 yX12_remembers yX12_remembers ∈ lwG := lwP_in (i := 89) (by decide +kernel) (by decide +kernel)
theorem wl_X12_X12_ringOf : Cond.selects RX12 yX12_ringOf yX12_ringOf ∈ lwG := lwP_in (i := 103) (by decide +kernel) (by decide +kernel)
theorem wl_X12_X12_ruinedOnes : Cond.selects RX12 yX12_ruinedOnes yX12_ruinedOnes ∈ lwG := lwP_in (i := 115) (by decide +kernel) (by decide +kernel)
theorem wl_X12_X12_says : Cond.selects RX12 yX12_says yX12_says ∈ lwG := lwP_in (i := 54) (by decide +kernel) (by decide +kernel)
theorem wl_X12_X12_skip : Cond.selects RX12 yX12_skip yX12_skip ∈ lwG := lwP_in (i := 50) (by decide +kernel) (by decide +kernel)
theorem wl_X12_X12_some : Cond.selects RX12 yX12_some yX12_some ∈ lwG := lwP_in (i := 57) (by decide +kernel) (by decide +kernel)
theorem wl_X12_X12_sum : Cond.selects RX12 yX12_sum yX12_sum ∈ lwG := lwP_in (i := 62) (by decide +kernel) (by decide +kernel)
theorem wl_X12_X12_tells : Cond.selects RX12 yX12_tells yX12_tells ∈ lwG := lwP_in (i := 78) (by decide +kernel) (by decide +kernel)
theorem wl_X12_X12_told : Cond.selects RX12 yX12_told yX12_told ∈ lwG := lwP_in (i := 77) (by decide +kernel) (by decide +kernel)
theorem wl_X12_X12_told_ : Cond.selects RX12 yX12_told_ yX12_told_ ∈ lwG := lwP_in (i := 113) (by decide +kernel) (by decide +kernel)
theorem wl_X12_X12_townLine : Cond.selects RX12 yX12_townLine yX12_townLine ∈ lwG := lwP_in (i := 64) (by decide +kernel) (by decide +kernel)
theorem wl_X12_X12_turnsBy : Cond.selects RX12 yX12_turnsBy yX12_turnsBy ∈ lwG := lwP_in (i := 88) (by decide +kernel) (by decide +kernel)
theorem wl_X12_X12_two : Cond.selects RX12 yX12_two yX12_two ∈ lwG := lwP_in (i := 83) (by decide +kernel) (by decide +kernel)
theorem wl_X12_X12_wealths : Cond.selects RX12 yX12_wealths yX12_wealths ∈ lwG := lwP_in (i := 82) (by decide +kernel) (by decide +kernel)
theorem wl_X12_X12_wedLine : Cond.selects RX12 yX12_wedLine yX12_wedLine ∈ lwG := lwP_in (i := 71) (by decide +kernel) (by decide +kernel)
theorem wl_X12_X12_wedOnes : Cond.selects RX12 yX12_wedOnes yX12_wedOnes ∈ lwG := lwP_in (i := 117) (by decide +kernel) (by decide +kernel)
theorem wl_X12_X12_wedTo : Cond.selects RX12 yX12_wedTo yX12_wedTo ∈ lwG := lwP_in (i := 73) (by decide +kernel) (by decide +kernel)
theorem wl_X12_X12_who : Cond.selects RX12 yX12_who yX12_who ∈ lwG := lwP_in (i := 68) (by decide +kernel) (by decide +kernel)
theorem wl_X12_X12_with : Cond.selects RX12 yX12_with yX12_with ∈ lwG := lwP_in (i := 114) (by decide +kernel) (by decide +kernel)
theorem wl_X12_X12_wrong : Cond.selects RX12 yX12_wrong yX12_wrong ∈ lwG := lwP_in (i := 52) (by decide +kernel) (by decide +kernel)
theorem wl_X1_X1_isSpelt : Cond.selects RX1 yX1_isSpelt yX1_isSpelt ∈ lwG := lwP_in (i := 11) (by decide +kernel) (by decide +kernel)
theorem wl_X2_X2_addCode : Cond.selects RX2 yX2_addCode yX2_addCode ∈ lwG := lwT_in (i := 855) (by decide +kernel) (by decide +kernel)
theorem wl_X2_X2_addLine : Cond.selects RX2 yX2_addLine yX2_addLine ∈ lwG := lwT_in (i := 880) (by decide +kernel) (by decide +kernel)
theorem wl_X2_X2_clearLines : Cond.selects RX2 yX2_clearLines yX2_clearLines ∈ lwG := lwT_in (i := 1062) (by decide +kernel) (by decide +kernel)
theorem wl_X2_X2_copyAll : Cond.selects RX2 yX2_copyAll yX2_copyAll ∈ lwG := lwT_in (i := 648) (by decide +kernel) (by decide +kernel)
theorem wl_X2_X2_isMet : Cond.selects RX2 yX2_isMet yX2_isMet ∈ lwG := lwP_in (i := 27) (by decide +kernel) (by decide +kernel)
theorem wl_X2_X2_turnsBy : Cond.selects RX2 yX2_turnsBy yX2_turnsBy ∈ lwG := lwT_in (i := 1163) (by decide +kernel) (by decide +kernel)
theorem wl_X3_X3_readsAll : Cond.selects RX3 yX3_readsAll yX3_readsAll ∈ lwG := lwP_in (i := 13) (by decide +kernel) (by decide +kernel)
theorem wl_X3_X3_readsAtom : Cond.selects RX3 yX3_readsAtom yX3_readsAtom ∈ lwG := lwP_in (i := 14) (by decide +kernel) (by decide +kernel)
theorem wl_X3_X3_readsEither : Cond.selects RX3 yX3_readsEither yX3_readsEither ∈ lwG := lwP_in (i := 12) (by decide +kernel) (by decide +kernel)
theorem wl_X3_X3_readsNot : Cond.selects RX3 yX3_readsNot yX3_readsNot ∈ lwG := lwP_in (i := 15) (by decide +kernel) (by decide +kernel)
theorem wl_X3_X3_readsSum : Cond.selects RX3 yX3_readsSum yX3_readsSum ∈ lwG := lwP_in (i := 16) (by decide +kernel) (by decide +kernel)
theorem wl_X4_X4_happyBehindMonth : Cond.selects RX4 yX4_happyBehindMonth yX4_happyBehindMonth ∈ lwG := lwT_in (i := 1361) (by decide +kernel) (by decide +kernel)
theorem wl_X4_X4_happyTurned : Cond.selects RX4 yX4_happyTurned yX4_happyTurned ∈ lwG := lwT_in (i := 1298) (by decide +kernel) (by decide +kernel)
theorem wl_X4_X4_passTime : Cond.selects RX4 yX4_passTime yX4_passTime ∈ lwG := lwT_in (i := 1366) (by decide +kernel) (by decide +kernel)
theorem wl_X4_X4_valueOf : Cond.selects RX4 yX4_valueOf yX4_valueOf ∈ lwG := lwT_in (i := 1172) (by decide +kernel) (by decide +kernel)
theorem wl_X5_X5_areLovers : Cond.selects RX5 yX5_areLovers yX5_areLovers ∈ lwG := lwP_in (i := 7) (by decide +kernel) (by decide +kernel)
theorem wl_X5_X5_bestFor : Cond.selects RX5 yX5_bestFor yX5_bestFor ∈ lwG := lwT_in (i := 1325) (by decide +kernel) (by decide +kernel)
theorem wl_X5_X5_countIfSteady : Cond.selects RX5 yX5_countIfSteady yX5_countIfSteady ∈ lwG := lwP_in (i := 41) (by decide +kernel) (by decide +kernel)
theorem wl_X5_X5_firstLovers : Cond.selects RX5 yX5_firstLovers yX5_firstLovers ∈ lwG := lwT_in (i := 573) (by decide +kernel) (by decide +kernel)
theorem wl_X5_X5_firstWithout : Cond.selects RX5 yX5_firstWithout yX5_firstWithout ∈ lwG := lwP_in (i := 40) (by decide +kernel) (by decide +kernel)
theorem wl_X5_X5_loverPairs : Cond.selects RX5 yX5_loverPairs yX5_loverPairs ∈ lwG := lwT_in (i := 595) (by decide +kernel) (by decide +kernel)
theorem wl_X5_X5_mostWeddings : Cond.selects RX5 yX5_mostWeddings yX5_mostWeddings ∈ lwG := lwT_in (i := 603) (by decide +kernel) (by decide +kernel)
theorem wl_X5_X5_pairUp : Cond.selects RX5 yX5_pairUp yX5_pairUp ∈ lwG := lwP_in (i := 39) (by decide +kernel) (by decide +kernel)
theorem wl_X5_X5_preferred : Cond.selects RX5 yX5_preferred yX5_preferred ∈ lwG := lwT_in (i := 582) (by decide +kernel) (by decide +kernel)
theorem wl_X5_X5_steadyPartner : Cond.selects RX5 yX5_steadyPartner yX5_steadyPartner ∈ lwG := lwT_in (i := 1511) (by decide +kernel) (by decide +kernel)
theorem wl_X5_X5_steadyWays : Cond.selects RX5 yX5_steadyWays yX5_steadyWays ∈ lwG := lwT_in (i := 1484) (by decide +kernel) (by decide +kernel)
theorem wl_X5_X5_tryPair : Cond.selects RX5 yX5_tryPair yX5_tryPair ∈ lwG := lwP_in (i := 43) (by decide +kernel) (by decide +kernel)
theorem wl_X5_X5_wouldLeaveFor : Cond.selects RX5 yX5_wouldLeaveFor yX5_wouldLeaveFor ∈ lwG := lwP_in (i := 42) (by decide +kernel) (by decide +kernel)
theorem wl_X6_X6_at : Cond.selects RX6 yX6_at yX6_at ∈ lwG := lwT_in (i := 510) (by decide +kernel) (by decide +kernel)
theorem wl_X6_X6_copyAll : Cond.selects RX6 yX6_copyAll yX6_copyAll ∈ lwG := lwT_in (i := 479) (by decide +kernel) (by decide +kernel)
theorem wl_X6_X6_put : Cond.selects RX6 yX6_put yX6_put ∈ lwG := lwT_in (i := 451) (by decide +kernel) (by decide +kernel)
theorem wl_X6_X6_putAll : Cond.selects RX6 yX6_putAll yX6_putAll ∈ lwG := lwT_in (i := 1454) (by decide +kernel) (by decide +kernel)
theorem wl_X8_X8_addMembers : Cond.selects RX8 yX8_addMembers yX8_addMembers ∈ lwG := lwP_in (i := 46) (by decide +kernel) (by decide +kernel)
theorem wl_X8_X8_bestParter : Cond.selects RX8 yX8_bestParter yX8_bestParter ∈ lwG := lwT_in (i := 1561) (by decide +kernel) (by decide +kernel)
theorem wl_X8_X8_fits : Cond.selects RX8 yX8_fits yX8_fits ∈ lwG := lwP_in (i := 45) (by decide +kernel) (by decide +kernel)
theorem wl_X8_X8_fitting : Cond.selects RX8 yX8_fitting yX8_fitting ∈ lwG := lwT_in (i := 1538) (by decide +kernel) (by decide +kernel)
theorem wl_X8_X8_inAll : Cond.selects RX8 yX8_inAll yX8_inAll ∈ lwG := lwT_in (i := 1534) (by decide +kernel) (by decide +kernel)
theorem wl_X8_X8_reads : Cond.selects RX8 yX8_reads yX8_reads ∈ lwG := lwT_in (i := 1527) (by decide +kernel) (by decide +kernel)
theorem wl_X9_X9_addAsked : Cond.selects RX9 yX9_addAsked yX9_addAsked ∈ lwG := lwT_in (i := 936) (by decide +kernel) (by decide +kernel)
theorem wl_X9_X9_addMatch : Cond.selects RX9 yX9_addMatch yX9_addMatch ∈ lwG := lwT_in (i := 952) (by decide +kernel) (by decide +kernel)
theorem wl_X9_X9_addPerson : Cond.selects RX9 yX9_addPerson yX9_addPerson ∈ lwG := lwT_in (i := 903) (by decide +kernel) (by decide +kernel)
theorem wl_X9_X9_addToLog : Cond.selects RX9 yX9_addToLog yX9_addToLog ∈ lwG := lwP_in (i := 34) (by decide +kernel) (by decide +kernel)
theorem wl_X9_X9_askersOf : Cond.selects RX9 yX9_askersOf yX9_askersOf ∈ lwG := lwT_in (i := 616) (by decide +kernel) (by decide +kernel)
theorem wl_X9_X9_changeHappy : Cond.selects RX9 yX9_changeHappy yX9_changeHappy ∈ lwG := lwT_in (i := 1238) (by decide +kernel) (by decide +kernel)
theorem wl_X9_X9_comesTo : Cond.selects RX9 yX9_comesTo yX9_comesTo ∈ lwG := lwP_in (i := 36) (by decide +kernel) (by decide +kernel)
theorem wl_X9_X9_copyAll : Cond.selects RX9 yX9_copyAll yX9_copyAll ∈ lwG := lwT_in (i := 471) (by decide +kernel) (by decide +kernel)
theorem wl_X9_X9_copyPurses : Cond.selects RX9 yX9_copyPurses yX9_copyPurses ∈ lwG := lwT_in (i := 475) (by decide +kernel) (by decide +kernel)
theorem wl_X9_X9_endMatch : Cond.selects RX9 yX9_endMatch yX9_endMatch ∈ lwG := lwT_in (i := 1268) (by decide +kernel) (by decide +kernel)
theorem wl_X9_X9_firstOf : Cond.selects RX9 yX9_firstOf yX9_firstOf ∈ lwG := lwT_in (i := 506) (by decide +kernel) (by decide +kernel)
theorem wl_X9_X9_give : Cond.selects RX9 yX9_give yX9_give ∈ lwG := lwP_in (i := 5) (by decide +kernel) (by decide +kernel)
theorem wl_X9_X9_hasPerson : Cond.selects RX9 yX9_hasPerson yX9_hasPerson ∈ lwG := lwT_in (i := 917) (by decide +kernel) (by decide +kernel)
theorem wl_X9_X9_insurersOf : Cond.selects RX9 yX9_insurersOf yX9_insurersOf ∈ lwG := lwT_in (i := 501) (by decide +kernel) (by decide +kernel)
theorem wl_X9_X9_insurersOfPair : Cond.selects RX9 yX9_insurersOfPair yX9_insurersOfPair ∈ lwG := lwT_in (i := 518) (by decide +kernel) (by decide +kernel)
theorem wl_X9_X9_isLeastOfRing : Cond.selects RX9 yX9_isLeastOfRing yX9_isLeastOfRing ∈ lwG := lwP_in (i := 6) (by decide +kernel) (by decide +kernel)
theorem wl_X9_X9_isOver : Cond.selects RX9 yX9_isOver yX9_isOver ∈ lwG := lwT_in (i := 493) (by decide +kernel) (by decide +kernel)
theorem wl_X9_X9_isRuined : Cond.selects RX9 yX9_isRuined yX9_isRuined ∈ lwG := lwT_in (i := 535) (by decide +kernel) (by decide +kernel)
theorem wl_X9_X9_isWed : Cond.selects RX9 yX9_isWed yX9_isWed ∈ lwG := lwT_in (i := 607) (by decide +kernel) (by decide +kernel)
theorem wl_X9_X9_leaners : Cond.selects RX9 yX9_leaners yX9_leaners ∈ lwG := lwT_in (i := 1435) (by decide +kernel) (by decide +kernel)
theorem wl_X9_X9_likingOf : Cond.selects RX9 yX9_likingOf yX9_likingOf ∈ lwG := lwT_in (i := 590) (by decide +kernel) (by decide +kernel)
theorem wl_X9_X9_logRows : Cond.selects RX9 yX9_logRows yX9_logRows ∈ lwG := lwT_in (i := 676) (by decide +kernel) (by decide +kernel)
theorem wl_X9_X9_logged : Cond.selects RX9 yX9_logged yX9_logged ∈ lwG := lwT_in (i := 1601) (by decide +kernel) (by decide +kernel)
theorem wl_X9_X9_loggedClaims : Cond.selects RX9 yX9_loggedClaims yX9_loggedClaims ∈ lwG := lwT_in (i := 1605) (by decide +kernel) (by decide +kernel)
theorem wl_X9_X9_loggedPaid : Cond.selects RX9 yX9_loggedPaid yX9_loggedPaid ∈ lwG := lwT_in (i := 1596) (by decide +kernel) (by decide +kernel)
theorem wl_X9_X9_lookAt : Cond.selects RX9 yX9_lookAt yX9_lookAt ∈ lwG := lwT_in (i := 1158) (by decide +kernel) (by decide +kernel)
theorem wl_X9_X9_passMatch : Cond.selects RX9 yX9_passMatch yX9_passMatch ∈ lwG := lwP_in (i := 32) (by decide +kernel) (by decide +kernel)
theorem wl_X9_X9_passMonth : Cond.selects RX9 yX9_passMonth yX9_passMonth ∈ lwG := lwT_in (i := 1284) (by decide +kernel) (by decide +kernel)
theorem wl_X9_X9_payClaim : Cond.selects RX9 yX9_payClaim yX9_payClaim ∈ lwG := lwT_in (i := 497) (by decide +kernel) (by decide +kernel)
theorem wl_X9_X9_payOut : Cond.selects RX9 yX9_payOut yX9_payOut ∈ lwG := lwP_in (i := 2) (by decide +kernel) (by decide +kernel)
theorem wl_X9_X9_payPremiums : Cond.selects RX9 yX9_payPremiums yX9_payPremiums ∈ lwG := lwP_in (i := 33) (by decide +kernel) (by decide +kernel)
theorem wl_X9_X9_richestPerson : Cond.selects RX9 yX9_richestPerson yX9_richestPerson ∈ lwG := lwT_in (i := 627) (by decide +kernel) (by decide +kernel)
theorem wl_X9_X9_ringCount : Cond.selects RX9 yX9_ringCount yX9_ringCount ∈ lwG := lwT_in (i := 557) (by decide +kernel) (by decide +kernel)
theorem wl_X9_X9_ringSteps : Cond.selects RX9 yX9_ringSteps yX9_ringSteps ∈ lwG := lwT_in (i := 561) (by decide +kernel) (by decide +kernel)
theorem wl_X9_X9_ruinIfShort : Cond.selects RX9 yX9_ruinIfShort yX9_ruinIfShort ∈ lwG := lwP_in (i := 3) (by decide +kernel) (by decide +kernel)
theorem wl_X9_X9_secondOf : Cond.selects RX9 yX9_secondOf yX9_secondOf ∈ lwG := lwT_in (i := 514) (by decide +kernel) (by decide +kernel)
theorem wl_X9_X9_setLiking : Cond.selects RX9 yX9_setLiking yX9_setLiking ∈ lwG := lwT_in (i := 924) (by decide +kernel) (by decide +kernel)
theorem wl_X9_X9_shareOf : Cond.selects RX9 yX9_shareOf yX9_shareOf ∈ lwG := lwT_in (i := 1104) (by decide +kernel) (by decide +kernel)
theorem wl_X9_X9_spouseOf : Cond.selects RX9 yX9_spouseOf yX9_spouseOf ∈ lwG := lwT_in (i := 586) (by decide +kernel) (by decide +kernel)
theorem wl_X9_X9_take : Cond.selects RX9 yX9_take yX9_take ∈ lwG := lwP_in (i := 4) (by decide +kernel) (by decide +kernel)
theorem wl_X9_X9_wealthOfAll : Cond.selects RX9 yX9_wealthOfAll yX9_wealthOfAll ∈ lwG := lwT_in (i := 667) (by decide +kernel) (by decide +kernel)
theorem wl_X9_X9_wedPeople : Cond.selects RX9 yX9_wedPeople yX9_wedPeople ∈ lwG := lwT_in (i := 671) (by decide +kernel) (by decide +kernel)
theorem wlx_X10_X10_X7_advance : Cond.selects RX10 ⟨"RivalWeds$TownText", "advance", "()V"⟩ yX7_advance ∈ lwG := lwT_in (i := 897) (by decide +kernel) (by decide +kernel)
theorem wlx_X10_X10_X7_linesOf : Cond.selects RX10 ⟨"RivalWeds$TownText", "linesOf", "(LRivalWeds$Row;II)I"⟩ yX7_linesOf ∈ lwG := lwT_in (i := 694) (by decide +kernel) (by decide +kernel)
theorem wlx_X10_X10_X7_needs : Cond.selects RX10 ⟨"RivalWeds$TownText", "needs", "(LRivalWeds$Kind;)Z"⟩ yX7_needs ∈ lwG := lwT_in (i := 949) (by decide +kernel) (by decide +kernel)
theorem wlx_X10_X10_X7_refuse : Cond.selects RX10 ⟨"RivalWeds$TownText", "refuse", "()Z"⟩ yX7_refuse ∈ lwG := lwT_in (i := 894) (by decide +kernel) (by decide +kernel)
theorem wlx_X10_X10_X7_takeNumber : Cond.selects RX10 ⟨"RivalWeds$TownText", "takeNumber", "(I)I"⟩ yX7_takeNumber ∈ lwG := lwT_in (i := 900) (by decide +kernel) (by decide +kernel)
theorem wlx_X10_X7_X10_readsLine : Cond.selects RX10 ⟨"RivalWeds$Text", "readsLine", "()Z"⟩ yX10_readsLine ∈ lwG := lwT_in (i := 883) (by decide +kernel) (by decide +kernel)
theorem wlx_X10_X7_X7_addThing : Cond.selects RX10 yX7_addThing yX7_addThing ∈ lwG := lwX_in (i := 4) rfl (by decide +kernel)
theorem wlx_X10_X7_X7_advance : Cond.selects RX10 ⟨"RivalWeds$Text", "advance", "()V"⟩ yX7_advance ∈ lwG := lwT_in (i := 788) (by decide +kernel) (by decide +kernel)
theorem wlx_X10_X7_X7_cut : Cond.selects RX10 yX7_cut yX7_cut ∈ lwG := lwX_in (i := 0) rfl (by decide +kernel)
theorem wlx_X10_X7_X7_needs : Cond.selects RX10 ⟨"RivalWeds$Text", "needs", "(LRivalWeds$Kind;)Z"⟩ yX7_needs ∈ lwG := lwT_in (i := 2211) (by decide +kernel) (by decide +kernel)
theorem wlx_X10_X7_X7_numberAt : Cond.selects RX10 yX7_numberAt yX7_numberAt ∈ lwG := lwX_in (i := 6) rfl (by decide +kernel)
theorem wlx_X10_X7_X7_refuse : Cond.selects RX10 ⟨"RivalWeds$Text", "refuse", "()Z"⟩ yX7_refuse ∈ lwG := lwT_in (i := 2208) (by decide +kernel) (by decide +kernel)
theorem wlx_X10_X7_X7_stopOf : Cond.selects RX10 yX7_stopOf yX7_stopOf ∈ lwG := lwX_in (i := 2) rfl (by decide +kernel)
theorem wlx_X3_X3_X7_advance : Cond.selects RX3 ⟨"RivalWeds$LawText", "advance", "()V"⟩ yX7_advance ∈ lwG := lwT_in (i := 809) (by decide +kernel) (by decide +kernel)
theorem wlx_X3_X3_X7_linesOf : Cond.selects RX3 ⟨"RivalWeds$LawText", "linesOf", "(LRivalWeds$Row;II)I"⟩ yX7_linesOf ∈ lwG := lwT_in (i := 1066) (by decide +kernel) (by decide +kernel)
theorem wlx_X3_X3_X7_needs : Cond.selects RX3 ⟨"RivalWeds$LawText", "needs", "(LRivalWeds$Kind;)Z"⟩ yX7_needs ∈ lwG := lwT_in (i := 846) (by decide +kernel) (by decide +kernel)
theorem wlx_X3_X3_X7_refuse : Cond.selects RX3 ⟨"RivalWeds$LawText", "refuse", "()Z"⟩ yX7_refuse ∈ lwG := lwT_in (i := 803) (by decide +kernel) (by decide +kernel)
theorem wlx_X3_X3_X7_takeNumber : Cond.selects RX3 ⟨"RivalWeds$LawText", "takeNumber", "(I)I"⟩ yX7_takeNumber ∈ lwG := lwT_in (i := 813) (by decide +kernel) (by decide +kernel)
theorem wlx_X3_X3_X7_takes : Cond.selects RX3 ⟨"RivalWeds$LawText", "takes", "(LRivalWeds$Kind;)Z"⟩ yX7_takes ∈ lwG := lwT_in (i := 822) (by decide +kernel) (by decide +kernel)
theorem wlx_X3_X7_X3_readsLine : Cond.selects RX3 ⟨"RivalWeds$Text", "readsLine", "()Z"⟩ yX3_readsLine ∈ lwG := lwT_in (i := 793) (by decide +kernel) (by decide +kernel)
theorem wlx_X3_X7_X7_addThing : Cond.selects RX3 yX7_addThing yX7_addThing ∈ lwG := lwX_in (i := 5) rfl (by decide +kernel)
theorem wlx_X3_X7_X7_advance : Cond.selects RX3 ⟨"RivalWeds$Text", "advance", "()V"⟩ yX7_advance ∈ lwG := lwT_in (i := 787) (by decide +kernel) (by decide +kernel)
theorem wlx_X3_X7_X7_cut : Cond.selects RX3 yX7_cut yX7_cut ∈ lwG := lwX_in (i := 1) rfl (by decide +kernel)
theorem wlx_X3_X7_X7_needs : Cond.selects RX3 ⟨"RivalWeds$Text", "needs", "(LRivalWeds$Kind;)Z"⟩ yX7_needs ∈ lwG := lwT_in (i := 2210) (by decide +kernel) (by decide +kernel)
theorem wlx_X3_X7_X7_numberAt : Cond.selects RX3 yX7_numberAt yX7_numberAt ∈ lwG := lwX_in (i := 7) rfl (by decide +kernel)
theorem wlx_X3_X7_X7_refuse : Cond.selects RX3 ⟨"RivalWeds$Text", "refuse", "()Z"⟩ yX7_refuse ∈ lwG := lwT_in (i := 2207) (by decide +kernel) (by decide +kernel)
theorem wlx_X3_X7_X7_stopOf : Cond.selects RX3 yX7_stopOf yX7_stopOf ∈ lwG := lwX_in (i := 3) rfl (by decide +kernel)
theorem wm_J0_1059 : Cond.methodLink RJ0 1059 yJ3_checkIndex_8e157 ∈ lwG := lwT_in (i := 755) (by decide +kernel) (by decide +kernel)
theorem wm_J0_335 : Cond.methodLink RJ0 335 yJ0_coder_7d493 ∈ lwG := lwT_in (i := 733) (by decide +kernel) (by decide +kernel)
theorem wm_J0_492 : Cond.methodLink RJ0 492 yJ0_isLatin1_aae02 ∈ lwG := lwT_in (i := 743) (by decide +kernel) (by decide +kernel)
theorem wm_J0_495 : Cond.methodLink RJ0 495 yJ1_charAt_3b067 ∈ lwG := lwT_in (i := 747) (by decide +kernel) (by decide +kernel)
theorem wm_J1_9 : Cond.methodLink RJ1 9 yJ0_checkIndex_df160 ∈ lwG := lwT_in (i := 750) (by decide +kernel) (by decide +kernel)
theorem wm_X0_102 : Cond.methodLink RX0 102 yX9_isOver ∈ lwG := lwT_in (i := 491) (by decide +kernel) (by decide +kernel)
theorem wm_X0_106 : Cond.methodLink RX0 106 yX9_payClaim ∈ lwG := lwT_in (i := 495) (by decide +kernel) (by decide +kernel)
theorem wm_X0_109 : Cond.methodLink RX0 109 yX9_copyAll ∈ lwG := lwT_in (i := 469) (by decide +kernel) (by decide +kernel)
theorem wm_X0_112 : Cond.methodLink RX0 112 yX0_claimAll ∈ lwG := lwT_in (i := 487) (by decide +kernel) (by decide +kernel)
theorem wm_X0_124 : Cond.methodLink RX0 124 yX9_copyPurses ∈ lwG := lwT_in (i := 1415) (by decide +kernel) (by decide +kernel)
theorem wm_X0_134 : Cond.methodLink RX0 134 yX9_passMonth ∈ lwG := lwT_in (i := 1575) (by decide +kernel) (by decide +kernel)
theorem wm_X0_41 : Cond.methodLink RX0 41 yX9_lookAt ∈ lwG := lwT_in (i := 1156) (by decide +kernel) (by decide +kernel)
theorem wm_X0_45 : Cond.methodLink RX0 45 yX2_turnsBy ∈ lwG := lwT_in (i := 1161) (by decide +kernel) (by decide +kernel)
theorem wm_X0_51 : Cond.methodLink RX0 51 yX4_happyTurned ∈ lwG := lwT_in (i := 1347) (by decide +kernel) (by decide +kernel)
theorem wm_X0_55 : Cond.methodLink RX0 55 yX4_happyBehindMonth ∈ lwG := lwT_in (i := 1359) (by decide +kernel) (by decide +kernel)
theorem wm_X0_61 : Cond.methodLink RX0 61 yX4_passTime ∈ lwG := lwT_in (i := 1364) (by decide +kernel) (by decide +kernel)
theorem wm_X0_68 : Cond.methodLink RX0 68 yX6_putAll ∈ lwG := lwT_in (i := 1452) (by decide +kernel) (by decide +kernel)
theorem wm_X0_71 : Cond.methodLink RX0 71 yX6_put ∈ lwG := lwT_in (i := 1416) (by decide +kernel) (by decide +kernel)
theorem wm_X0_75 : Cond.methodLink RX0 75 yX0_addGifts ∈ lwG := lwT_in (i := 1456) (by decide +kernel) (by decide +kernel)
theorem wm_X0_78 : Cond.methodLink RX0 78 yX0_passCosts ∈ lwG := lwT_in (i := 1462) (by decide +kernel) (by decide +kernel)
theorem wm_X0_82 : Cond.methodLink RX0 82 yX6_at ∈ lwG := lwT_in (i := 1402) (by decide +kernel) (by decide +kernel)
theorem wm_X0_95 : Cond.methodLink RX0 95 yX6_copyAll ∈ lwG := lwT_in (i := 1466) (by decide +kernel) (by decide +kernel)
theorem wm_X10_101 : Cond.methodLink RX10 101 yX9_addAsked ∈ lwG := lwT_in (i := 934) (by decide +kernel) (by decide +kernel)
theorem wm_X10_108 : Cond.methodLink RX10 108 yX6_put ∈ lwG := lwT_in (i := 938) (by decide +kernel) (by decide +kernel)
theorem wm_X10_121 : Cond.methodLink RX10 121 yX9_addMatch ∈ lwG := lwT_in (i := 950) (by decide +kernel) (by decide +kernel)
theorem wm_X10_146 : Cond.methodLink RX10 146 yX9_hasPerson ∈ lwG := lwT_in (i := 915) (by decide +kernel) (by decide +kernel)
theorem wm_X10_150 : Cond.methodLink RX10 150 yX9_spouseOf ∈ lwG := lwT_in (i := 919) (by decide +kernel) (by decide +kernel)
theorem wm_X10_27 : Cond.methodLink RX10 27 yX10_readsPerson ∈ lwG := lwT_in (i := 888) (by decide +kernel) (by decide +kernel)
theorem wm_X10_34 : Cond.methodLink RX10 34 yX10_readsLikes ∈ lwG := lwT_in (i := 907) (by decide +kernel) (by decide +kernel)
theorem wm_X10_43 : Cond.methodLink RX10 43 yX10_readsTwo ∈ lwG := lwT_in (i := 930) (by decide +kernel) (by decide +kernel)
theorem wm_X10_50 : Cond.methodLink RX10 50 yX10_readsWed ∈ lwG := lwT_in (i := 941) (by decide +kernel) (by decide +kernel)
theorem wm_X10_53 : Cond.methodLink RX10 53 yX10_readsSetting ∈ lwG := lwT_in (i := 954) (by decide +kernel) (by decide +kernel)
theorem wm_X10_71 : Cond.methodLink RX10 71 yX9_addPerson ∈ lwG := lwT_in (i := 901) (by decide +kernel) (by decide +kernel)
theorem wm_X10_75 : Cond.methodLink RX10 75 yX10_takeSomebody ∈ lwG := lwT_in (i := 911) (by decide +kernel) (by decide +kernel)
theorem wm_X10_92 : Cond.methodLink RX10 92 yX6_at ∈ lwG := lwT_in (i := 921) (by decide +kernel) (by decide +kernel)
theorem wm_X10_97 : Cond.methodLink RX10 97 yX9_setLiking ∈ lwG := lwT_in (i := 922) (by decide +kernel) (by decide +kernel)
theorem wm_X11_101 : Cond.methodLink RX11 101 yX9_copyAll ∈ lwG := lwT_in (i := 641) (by decide +kernel) (by decide +kernel)
theorem wm_X11_105 : Cond.methodLink RX11 105 yX11_useTapeUp ∈ lwG := lwT_in (i := 687) (by decide +kernel) (by decide +kernel)
theorem wm_X11_131 : Cond.methodLink RX11 131 yX11_forgetActs ∈ lwG := lwT_in (i := 657) (by decide +kernel) (by decide +kernel)
theorem wm_X11_136 : Cond.methodLink RX11 136 yX2_clearLines ∈ lwG := lwT_in (i := 1060) (by decide +kernel) (by decide +kernel)
theorem wm_X11_143 : Cond.methodLink RX11 143 yX2_copyAll ∈ lwG := lwT_in (i := 646) (by decide +kernel) (by decide +kernel)
theorem wm_X11_146 : Cond.methodLink RX11 146 yX11_checkPerson ∈ lwG := lwT_in (i := 1077) (by decide +kernel) (by decide +kernel)
theorem wm_X11_152 : Cond.methodLink RX11 152 yX6_at ∈ lwG := lwT_in (i := 1098) (by decide +kernel) (by decide +kernel)
theorem wm_X11_159 : Cond.methodLink RX11 159 yX9_askersOf ∈ lwG := lwT_in (i := 1099) (by decide +kernel) (by decide +kernel)
theorem wm_X11_165 : Cond.methodLink RX11 165 yX9_isRuined ∈ lwG := lwT_in (i := 1100) (by decide +kernel) (by decide +kernel)
theorem wm_X11_169 : Cond.methodLink RX11 169 yX9_spouseOf ∈ lwG := lwT_in (i := 1101) (by decide +kernel) (by decide +kernel)
theorem wm_X11_172 : Cond.methodLink RX11 172 yX9_shareOf ∈ lwG := lwT_in (i := 1102) (by decide +kernel) (by decide +kernel)
theorem wm_X11_180 : Cond.methodLink RX11 180 yX11_checkTwo ∈ lwG := lwT_in (i := 1130) (by decide +kernel) (by decide +kernel)
theorem wm_X11_183 : Cond.methodLink RX11 183 yX9_likingOf ∈ lwG := lwT_in (i := 1135) (by decide +kernel) (by decide +kernel)
theorem wm_X11_187 : Cond.methodLink RX11 187 yX11_checkMatch ∈ lwG := lwT_in (i := 1143) (by decide +kernel) (by decide +kernel)
theorem wm_X11_190 : Cond.methodLink RX11 190 yX9_firstOf ∈ lwG := lwT_in (i := 1148) (by decide +kernel) (by decide +kernel)
theorem wm_X11_193 : Cond.methodLink RX11 193 yX9_secondOf ∈ lwG := lwT_in (i := 1149) (by decide +kernel) (by decide +kernel)
theorem wm_X11_202 : Cond.methodLink RX11 202 yX9_isOver ∈ lwG := lwT_in (i := 1150) (by decide +kernel) (by decide +kernel)
theorem wm_X11_205 : Cond.methodLink RX11 205 yX9_insurersOf ∈ lwG := lwT_in (i := 1151) (by decide +kernel) (by decide +kernel)
theorem wm_X11_208 : Cond.methodLink RX11 208 yX0_turnsNow ∈ lwG := lwT_in (i := 1152) (by decide +kernel) (by decide +kernel)
theorem wm_X11_214 : Cond.methodLink RX11 214 yX11_remember ∈ lwG := lwT_in (i := 1185) (by decide +kernel) (by decide +kernel)
theorem wm_X11_217 : Cond.methodLink RX11 217 yX9_addAsked ∈ lwG := lwT_in (i := 1189) (by decide +kernel) (by decide +kernel)
theorem wm_X11_221 : Cond.methodLink RX11 221 yX9_isWed ∈ lwG := lwT_in (i := 1198) (by decide +kernel) (by decide +kernel)
theorem wm_X11_234 : Cond.methodLink RX11 234 yX9_addMatch ∈ lwG := lwT_in (i := 1216) (by decide +kernel) (by decide +kernel)
theorem wm_X11_238 : Cond.methodLink RX11 238 yX11_checkInsurer ∈ lwG := lwT_in (i := 1224) (by decide +kernel) (by decide +kernel)
theorem wm_X11_243 : Cond.methodLink RX11 243 yX9_changeHappy ∈ lwG := lwT_in (i := 1236) (by decide +kernel) (by decide +kernel)
theorem wm_X11_246 : Cond.methodLink RX11 246 yX11_checkGoesOn ∈ lwG := lwT_in (i := 1228) (by decide +kernel) (by decide +kernel)
theorem wm_X11_249 : Cond.methodLink RX11 249 yX9_endMatch ∈ lwG := lwT_in (i := 1266) (by decide +kernel) (by decide +kernel)
theorem wm_X11_252 : Cond.methodLink RX11 252 yX11_checkNumber ∈ lwG := lwT_in (i := 1277) (by decide +kernel) (by decide +kernel)
theorem wm_X11_259 : Cond.methodLink RX11 259 yX9_passMonth ∈ lwG := lwT_in (i := 1282) (by decide +kernel) (by decide +kernel)
theorem wm_X11_263 : Cond.methodLink RX11 263 yX9_insurersOfPair ∈ lwG := lwT_in (i := 1315) (by decide +kernel) (by decide +kernel)
theorem wm_X11_266 : Cond.methodLink RX11 266 yX5_bestFor ∈ lwG := lwT_in (i := 1323) (by decide +kernel) (by decide +kernel)
theorem wm_X11_270 : Cond.methodLink RX11 270 yX11_checkQuarrel ∈ lwG := lwT_in (i := 1339) (by decide +kernel) (by decide +kernel)
theorem wm_X11_273 : Cond.methodLink RX11 273 yX0_happyNext ∈ lwG := lwT_in (i := 1343) (by decide +kernel) (by decide +kernel)
theorem wm_X11_277 : Cond.methodLink RX11 277 yX0_happyAhead ∈ lwG := lwT_in (i := 1355) (by decide +kernel) (by decide +kernel)
theorem wm_X11_281 : Cond.methodLink RX11 281 yX0_firstClaim ∈ lwG := lwT_in (i := 1376) (by decide +kernel) (by decide +kernel)
theorem wm_X11_284 : Cond.methodLink RX11 284 yX0_claimQuarrels ∈ lwG := lwT_in (i := 1387) (by decide +kernel) (by decide +kernel)
theorem wm_X11_287 : Cond.methodLink RX11 287 yX0_fewestGifts ∈ lwG := lwT_in (i := 1448) (by decide +kernel) (by decide +kernel)
theorem wm_X11_290 : Cond.methodLink RX11 290 yX0_fallen ∈ lwG := lwT_in (i := 465) (by decide +kernel) (by decide +kernel)
theorem wm_X11_294 : Cond.methodLink RX11 294 yX0_lossOf ∈ lwG := lwT_in (i := 1398) (by decide +kernel) (by decide +kernel)
theorem wm_X11_297 : Cond.methodLink RX11 297 yX0_leastWealth ∈ lwG := lwT_in (i := 1411) (by decide +kernel) (by decide +kernel)
theorem wm_X11_300 : Cond.methodLink RX11 300 yX9_ringSteps ∈ lwG := lwT_in (i := 1425) (by decide +kernel) (by decide +kernel)
theorem wm_X11_303 : Cond.methodLink RX11 303 yX9_ringCount ∈ lwG := lwT_in (i := 555) (by decide +kernel) (by decide +kernel)
theorem wm_X11_306 : Cond.methodLink RX11 306 yX9_leaners ∈ lwG := lwT_in (i := 1433) (by decide +kernel) (by decide +kernel)
theorem wm_X11_309 : Cond.methodLink RX11 309 yX5_preferred ∈ lwG := lwT_in (i := 1474) (by decide +kernel) (by decide +kernel)
theorem wm_X11_312 : Cond.methodLink RX11 312 yX5_firstLovers ∈ lwG := lwT_in (i := 571) (by decide +kernel) (by decide +kernel)
theorem wm_X11_315 : Cond.methodLink RX11 315 yX5_loverPairs ∈ lwG := lwT_in (i := 593) (by decide +kernel) (by decide +kernel)
theorem wm_X11_318 : Cond.methodLink RX11 318 yX5_steadyWays ∈ lwG := lwT_in (i := 1482) (by decide +kernel) (by decide +kernel)
theorem wm_X11_321 : Cond.methodLink RX11 321 yX5_steadyPartner ∈ lwG := lwT_in (i := 1509) (by decide +kernel) (by decide +kernel)
theorem wm_X11_324 : Cond.methodLink RX11 324 yX5_mostWeddings ∈ lwG := lwT_in (i := 601) (by decide +kernel) (by decide +kernel)
theorem wm_X11_327 : Cond.methodLink RX11 327 yX11_readTold ∈ lwG := lwT_in (i := 1521) (by decide +kernel) (by decide +kernel)
theorem wm_X11_330 : Cond.methodLink RX11 330 yX8_inAll ∈ lwG := lwT_in (i := 1532) (by decide +kernel) (by decide +kernel)
theorem wm_X11_333 : Cond.methodLink RX11 333 yX8_fitting ∈ lwG := lwT_in (i := 1551) (by decide +kernel) (by decide +kernel)
theorem wm_X11_336 : Cond.methodLink RX11 336 yX8_bestParter ∈ lwG := lwT_in (i := 1559) (by decide +kernel) (by decide +kernel)
theorem wm_X11_342 : Cond.methodLink RX11 342 yX8_reads ∈ lwG := lwT_in (i := 1525) (by decide +kernel) (by decide +kernel)
theorem wm_X11_348 : Cond.methodLink RX11 348 yX9_richestPerson ∈ lwG := lwT_in (i := 625) (by decide +kernel) (by decide +kernel)
theorem wm_X11_354 : Cond.methodLink RX11 354 yX0_tryMonths ∈ lwG := lwT_in (i := 1571) (by decide +kernel) (by decide +kernel)
theorem wm_X11_357 : Cond.methodLink RX11 357 yX0_ruinedInTrial ∈ lwG := lwT_in (i := 1576) (by decide +kernel) (by decide +kernel)
theorem wm_X11_368 : Cond.methodLink RX11 368 yX9_loggedPaid ∈ lwG := lwT_in (i := 1594) (by decide +kernel) (by decide +kernel)
theorem wm_X11_371 : Cond.methodLink RX11 371 yX9_loggedClaims ∈ lwG := lwT_in (i := 1603) (by decide +kernel) (by decide +kernel)
theorem wm_X11_376 : Cond.methodLink RX11 376 yX9_logRows ∈ lwG := lwT_in (i := 674) (by decide +kernel) (by decide +kernel)
theorem wm_X11_379 : Cond.methodLink RX11 379 yX9_logged ∈ lwG := lwT_in (i := 1615) (by decide +kernel) (by decide +kernel)
theorem wm_X11_388 : Cond.methodLink RX11 388 yX11_rememberedTown ∈ lwG := lwT_in (i := 637) (by decide +kernel) (by decide +kernel)
theorem wm_X11_414 : Cond.methodLink RX11 414 yX9_wealthOfAll ∈ lwG := lwT_in (i := 665) (by decide +kernel) (by decide +kernel)
theorem wm_X11_420 : Cond.methodLink RX11 420 yX9_wedPeople ∈ lwG := lwT_in (i := 669) (by decide +kernel) (by decide +kernel)
theorem wm_X11_423 : Cond.methodLink RX11 423 yX9_hasPerson ∈ lwG := lwT_in (i := 1081) (by decide +kernel) (by decide +kernel)
theorem wm_X11_437 : Cond.methodLink RX11 437 yX11_contains ∈ lwG := lwT_in (i := 1233) (by decide +kernel) (by decide +kernel)
theorem wm_X11_91 : Cond.methodLink RX11 91 yX11_feedNumber ∈ lwG := lwT_in (i := 445) (by decide +kernel) (by decide +kernel)
theorem wm_X11_94 : Cond.methodLink RX11 94 yX6_put ∈ lwG := lwT_in (i := 449) (by decide +kernel) (by decide +kernel)
theorem wm_X12_100 : Cond.methodLink RX12 100 yJ0_charAt_5068e ∈ lwG := lwT_in (i := 1749) (by decide +kernel) (by decide +kernel)
theorem wm_X12_104 : Cond.methodLink RX12 104 yX12_place ∈ lwG := lwT_in (i := 1755) (by decide +kernel) (by decide +kernel)
theorem wm_X12_107 : Cond.methodLink RX12 107 yX12_wrong ∈ lwG := lwT_in (i := 1735) (by decide +kernel) (by decide +kernel)
theorem wm_X12_111 : Cond.methodLink RX12 111 yX12_says ∈ lwG := lwT_in (i := 1744) (by decide +kernel) (by decide +kernel)
theorem wm_X12_115 : Cond.methodLink RX12 115 yX12_figures ∈ lwG := lwT_in (i := 1751) (by decide +kernel) (by decide +kernel)
theorem wm_X12_118 : Cond.methodLink RX12 118 yX12_who ∈ lwG := lwT_in (i := 1817) (by decide +kernel) (by decide +kernel)
theorem wm_X12_121 : Cond.methodLink RX12 121 yX12_wedTo ∈ lwG := lwT_in (i := 1840) (by decide +kernel) (by decide +kernel)
theorem wm_X12_124 : Cond.methodLink RX12 124 yX12_free ∈ lwG := lwT_in (i := 1836) (by decide +kernel) (by decide +kernel)
theorem wm_X12_128 : Cond.methodLink RX12 128 yX12_other ∈ lwG := lwT_in (i := 1822) (by decide +kernel) (by decide +kernel)
theorem wm_X12_133 : Cond.methodLink RX12 133 yX12_after ∈ lwG := lwT_in (i := 1848) (by decide +kernel) (by decide +kernel)
theorem wm_X12_137 : Cond.methodLink RX12 137 yX12_comes ∈ lwG := lwT_in (i := 1852) (by decide +kernel) (by decide +kernel)
theorem wm_X12_141 : Cond.methodLink RX12 141 yX12_told ∈ lwG := lwT_in (i := 1856) (by decide +kernel) (by decide +kernel)
theorem wm_X12_144 : Cond.methodLink RX12 144 yX12_has ∈ lwG := lwT_in (i := 1808) (by decide +kernel) (by decide +kernel)
theorem wm_X12_149 : Cond.methodLink RX12 149 yX12_personLine ∈ lwG := lwT_in (i := 1804) (by decide +kernel) (by decide +kernel)
theorem wm_X12_154 : Cond.methodLink RX12 154 yX12_likings ∈ lwG := lwT_in (i := 1813) (by decide +kernel) (by decide +kernel)
theorem wm_X12_163 : Cond.methodLink RX12 163 yX12_wedLine ∈ lwG := lwT_in (i := 1832) (by decide +kernel) (by decide +kernel)
theorem wm_X12_168 : Cond.methodLink RX12 168 yX12_tells ∈ lwG := lwT_in (i := 1861) (by decide +kernel) (by decide +kernel)
theorem wm_X12_178 : Cond.methodLink RX12 178 yX12_lawLine ∈ lwG := lwT_in (i := 1739) (by decide +kernel) (by decide +kernel)
theorem wm_X12_181 : Cond.methodLink RX12 181 yX12_townLine ∈ lwG := lwT_in (i := 1799) (by decide +kernel) (by decide +kernel)
theorem wm_X12_184 : Cond.methodLink RX12 184 yX12_isSign ∈ lwG := lwT_in (i := 1773) (by decide +kernel) (by decide +kernel)
theorem wm_X12_188 : Cond.methodLink RX12 188 yX12_putsAside ∈ lwG := lwT_in (i := 1715) (by decide +kernel) (by decide +kernel)
theorem wm_X12_191 : Cond.methodLink RX12 191 yX12_begins ∈ lwG := lwT_in (i := 1719) (by decide +kernel) (by decide +kernel)
theorem wm_X12_194 : Cond.methodLink RX12 194 yX12_read ∈ lwG := lwT_in (i := 1723) (by decide +kernel) (by decide +kernel)
theorem wm_X12_198 : Cond.methodLink RX12 198 yX12_comesBack ∈ lwG := lwT_in (i := 1867) (by decide +kernel) (by decide +kernel)
theorem wm_X12_214 : Cond.methodLink RX12 214 yX12_part ∈ lwG := lwT_in (i := 1787) (by decide +kernel) (by decide +kernel)
theorem wm_X12_225 : Cond.methodLink RX12 225 yX12_sum ∈ lwG := lwT_in (i := 1783) (by decide +kernel) (by decide +kernel)
theorem wm_X12_230 : Cond.methodLink RX12 230 yX12_plain ∈ lwG := lwT_in (i := 1777) (by decide +kernel) (by decide +kernel)
theorem wm_X12_234 : Cond.methodLink RX12 234 yX12_atom ∈ lwG := lwT_in (i := 1768) (by decide +kernel) (by decide +kernel)
theorem wm_X12_237 : Cond.methodLink RX12 237 yX12_some ∈ lwG := lwT_in (i := 1760) (by decide +kernel) (by decide +kernel)
theorem wm_X12_242 : Cond.methodLink RX12 242 yX12_every ∈ lwG := lwT_in (i := 1764) (by decide +kernel) (by decide +kernel)
theorem wm_X12_256 : Cond.methodLink RX12 256 yX12_insurers ∈ lwG := lwT_in (i := 1918) (by decide +kernel) (by decide +kernel)
theorem wm_X12_258 : Cond.methodLink RX12 258 yX12_likes ∈ lwG := lwT_in (i := 1906) (by decide +kernel) (by decide +kernel)
theorem wm_X12_260 : Cond.methodLink RX12 260 yX12_turnsBy ∈ lwG := lwT_in (i := 1929) (by decide +kernel) (by decide +kernel)
theorem wm_X12_263 : Cond.methodLink RX12 263 yX12_lesser ∈ lwG := lwT_in (i := 1953) (by decide +kernel) (by decide +kernel)
theorem wm_X12_266 : Cond.methodLink RX12 266 yX12_greater ∈ lwG := lwT_in (i := 1960) (by decide +kernel) (by decide +kernel)
theorem wm_X12_269 : Cond.methodLink RX12 269 yX12_gives ∈ lwG := lwT_in (i := 2004) (by decide +kernel) (by decide +kernel)
theorem wm_X12_272 : Cond.methodLink RX12 272 yX12_gets ∈ lwG := lwT_in (i := 1988) (by decide +kernel) (by decide +kernel)
theorem wm_X12_275 : Cond.methodLink RX12 275 yX12_pays ∈ lwG := lwT_in (i := 2000) (by decide +kernel) (by decide +kernel)
theorem wm_X12_278 : Cond.methodLink RX12 278 yX12_draw ∈ lwG := lwT_in (i := 1979) (by decide +kernel) (by decide +kernel)
theorem wm_X12_281 : Cond.methodLink RX12 281 yX12_premiums ∈ lwG := lwT_in (i := 1984) (by decide +kernel) (by decide +kernel)
theorem wm_X12_284 : Cond.methodLink RX12 284 yX12_nextOf ∈ lwG := lwT_in (i := 1992) (by decide +kernel) (by decide +kernel)
theorem wm_X12_287 : Cond.methodLink RX12 287 yX12_claims ∈ lwG := lwT_in (i := 1996) (by decide +kernel) (by decide +kernel)
theorem wm_X12_290 : Cond.methodLink RX12 290 yX12_logs ∈ lwG := lwT_in (i := 2008) (by decide +kernel) (by decide +kernel)
theorem wm_X12_293 : Cond.methodLink RX12 293 yX12_isPerson ∈ lwG := lwT_in (i := 1883) (by decide +kernel) (by decide +kernel)
theorem wm_X12_296 : Cond.methodLink RX12 296 yX12_askersOf ∈ lwG := lwT_in (i := 1887) (by decide +kernel) (by decide +kernel)
theorem wm_X12_299 : Cond.methodLink RX12 299 yX12_wealths ∈ lwG := lwT_in (i := 1894) (by decide +kernel) (by decide +kernel)
theorem wm_X12_302 : Cond.methodLink RX12 302 yX12_two ∈ lwG := lwT_in (i := 1902) (by decide +kernel) (by decide +kernel)
theorem wm_X12_305 : Cond.methodLink RX12 305 yX12_isMatch ∈ lwG := lwT_in (i := 1914) (by decide +kernel) (by decide +kernel)
theorem wm_X12_308 : Cond.methodLink RX12 308 yX12_remembers ∈ lwG := lwT_in (i := 1937) (by decide +kernel) (by decide +kernel)
theorem wm_X12_311 : Cond.methodLink RX12 311 yX12_insures ∈ lwG := lwT_in (i := 1949) (by decide +kernel) (by decide +kernel)
theorem wm_X12_314 : Cond.methodLink RX12 314 yX12_goes ∈ lwG := lwT_in (i := 1975) (by decide +kernel) (by decide +kernel)
theorem wm_X12_317 : Cond.methodLink RX12 317 yX12_badMatch ∈ lwG := lwT_in (i := 2024) (by decide +kernel) (by decide +kernel)
theorem wm_X12_321 : Cond.methodLink RX12 321 yX12_passes ∈ lwG := lwT_in (i := 2032) (by decide +kernel) (by decide +kernel)
theorem wm_X12_324 : Cond.methodLink RX12 324 yX12_fallsNow ∈ lwG := lwT_in (i := 2048) (by decide +kernel) (by decide +kernel)
theorem wm_X12_327 : Cond.methodLink RX12 327 yX12_ringOf ∈ lwG := lwT_in (i := 2064) (by decide +kernel) (by decide +kernel)
theorem wm_X12_330 : Cond.methodLink RX12 330 yX12_leads ∈ lwG := lwT_in (i := 2072) (by decide +kernel) (by decide +kernel)
theorem wm_X12_333 : Cond.methodLink RX12 333 yX12_by ∈ lwG := lwT_in (i := 2084) (by decide +kernel) (by decide +kernel)
theorem wm_X12_335 : Cond.methodLink RX12 335 yX12_fewest ∈ lwG := lwT_in (i := 2089) (by decide +kernel) (by decide +kernel)
theorem wm_X12_338 : Cond.methodLink RX12 338 yX12_ofAside ∈ lwG := lwT_in (i := 2093) (by decide +kernel) (by decide +kernel)
theorem wm_X12_342 : Cond.methodLink RX12 342 yX12_ratherOf ∈ lwG := lwT_in (i := 2101) (by decide +kernel) (by decide +kernel)
theorem wm_X12_345 : Cond.methodLink RX12 345 yX12_prefers ∈ lwG := lwT_in (i := 2121) (by decide +kernel) (by decide +kernel)
theorem wm_X12_348 : Cond.methodLink RX12 348 yX12_isSteady ∈ lwG := lwT_in (i := 2117) (by decide +kernel) (by decide +kernel)
theorem wm_X12_354 : Cond.methodLink RX12 354 yX12_pairsUp ∈ lwG := lwT_in (i := 2113) (by decide +kernel) (by decide +kernel)
theorem wm_X12_358 : Cond.methodLink RX12 358 yX12_mayWed ∈ lwG := lwT_in (i := 2129) (by decide +kernel) (by decide +kernel)
theorem wm_X12_361 : Cond.methodLink RX12 361 yX12_told_ ∈ lwG := lwT_in (i := 2137) (by decide +kernel) (by decide +kernel)
theorem wm_X12_363 : Cond.methodLink RX12 363 yX12_with ∈ lwG := lwT_in (i := 2141) (by decide +kernel) (by decide +kernel)
theorem wm_X12_366 : Cond.methodLink RX12 366 yX12_ruinedOnes ∈ lwG := lwT_in (i := 2157) (by decide +kernel) (by decide +kernel)
theorem wm_X12_369 : Cond.methodLink RX12 369 yX12_logged ∈ lwG := lwT_in (i := 2169) (by decide +kernel) (by decide +kernel)
theorem wm_X12_375 : Cond.methodLink RX12 375 yX12_wedOnes ∈ lwG := lwT_in (i := 2197) (by decide +kernel) (by decide +kernel)
theorem wm_X12_54 : Cond.methodLink RX12 54 yX12_isIn ∈ lwG := lwT_in (i := 1708) (by decide +kernel) (by decide +kernel)
theorem wm_X12_58 : Cond.methodLink RX12 58 yX12_ofMatch ∈ lwG := lwT_in (i := 1844) (by decide +kernel) (by decide +kernel)
theorem wm_X12_62 : Cond.methodLink RX12 62 yX12_of ∈ lwG := lwT_in (i := 1826) (by decide +kernel) (by decide +kernel)
theorem wm_X12_65 : Cond.methodLink RX12 65 yX12_isOf ∈ lwG := lwT_in (i := 1891) (by decide +kernel) (by decide +kernel)
theorem wm_X12_69 : Cond.methodLink RX12 69 yX12_bits ∈ lwG := lwT_in (i := 1926) (by decide +kernel) (by decide +kernel)
theorem wm_X12_73 : Cond.methodLink RX12 73 yX12_insurersOf ∈ lwG := lwT_in (i := 1922) (by decide +kernel) (by decide +kernel)
theorem wm_X12_88 : Cond.methodLink RX12 88 yX12_letter ∈ lwG := lwT_in (i := 1731) (by decide +kernel) (by decide +kernel)
theorem wm_X12_91 : Cond.methodLink RX12 91 yX12_skip ∈ lwG := lwT_in (i := 1727) (by decide +kernel) (by decide +kernel)
theorem wm_X12_94 : Cond.methodLink RX12 94 yJ0_length_8abf5 ∈ lwG := lwT_in (i := 1748) (by decide +kernel) (by decide +kernel)
theorem wm_X1_129 : Cond.methodLink RX1 129 yX1_isSpelt ∈ lwG := lwT_in (i := 724) (by decide +kernel) (by decide +kernel)
theorem wm_X1_133 : Cond.methodLink RX1 133 yJ0_length_8abf5 ∈ lwG := lwT_in (i := 729) (by decide +kernel) (by decide +kernel)
theorem wm_X1_139 : Cond.methodLink RX1 139 yJ0_charAt_5068e ∈ lwG := lwT_in (i := 739) (by decide +kernel) (by decide +kernel)
theorem wm_X1_143 : Cond.methodLink RX1 143 yX6_at ∈ lwG := lwT_in (i := 777) (by decide +kernel) (by decide +kernel)
theorem wm_X2_37 : Cond.methodLink RX2 37 yX6_put ∈ lwG := lwT_in (i := 882) (by decide +kernel) (by decide +kernel)
theorem wm_X2_41 : Cond.methodLink RX2 41 yX6_copyAll ∈ lwG := lwT_in (i := 650) (by decide +kernel) (by decide +kernel)
theorem wm_X2_65 : Cond.methodLink RX2 65 yX6_at ∈ lwG := lwT_in (i := 1165) (by decide +kernel) (by decide +kernel)
theorem wm_X2_69 : Cond.methodLink RX2 69 yX2_isMet ∈ lwG := lwT_in (i := 1166) (by decide +kernel) (by decide +kernel)
theorem wm_X2_73 : Cond.methodLink RX2 73 yX4_valueOf ∈ lwG := lwT_in (i := 1170) (by decide +kernel) (by decide +kernel)
theorem wm_X2_76 : Cond.methodLink RX2 76 yX2_joined ∈ lwG := lwT_in (i := 1174) (by decide +kernel) (by decide +kernel)
theorem wm_X3_108 : Cond.methodLink RX3 108 yX2_isPart ∈ lwG := lwT_in (i := 865) (by decide +kernel) (by decide +kernel)
theorem wm_X3_48 : Cond.methodLink RX3 48 yX3_readsEither ∈ lwG := lwT_in (i := 825) (by decide +kernel) (by decide +kernel)
theorem wm_X3_52 : Cond.methodLink RX3 52 yX2_addLine ∈ lwG := lwT_in (i := 878) (by decide +kernel) (by decide +kernel)
theorem wm_X3_56 : Cond.methodLink RX3 56 yX3_readsAll ∈ lwG := lwT_in (i := 829) (by decide +kernel) (by decide +kernel)
theorem wm_X3_62 : Cond.methodLink RX3 62 yX2_addCode ∈ lwG := lwT_in (i := 853) (by decide +kernel) (by decide +kernel)
theorem wm_X3_65 : Cond.methodLink RX3 65 yX3_readsAtom ∈ lwG := lwT_in (i := 833) (by decide +kernel) (by decide +kernel)
theorem wm_X3_83 : Cond.methodLink RX3 83 yX3_readsNot ∈ lwG := lwT_in (i := 849) (by decide +kernel) (by decide +kernel)
theorem wm_X3_96 : Cond.methodLink RX3 96 yX3_readsSum ∈ lwG := lwT_in (i := 861) (by decide +kernel) (by decide +kernel)
theorem wm_X4_34 : Cond.methodLink RX4 34 yX2_turnsBy ∈ lwG := lwT_in (i := 1300) (by decide +kernel) (by decide +kernel)
theorem wm_X4_44 : Cond.methodLink RX4 44 yX4_happyTurned ∈ lwG := lwT_in (i := 1363) (by decide +kernel) (by decide +kernel)
theorem wm_X5_100 : Cond.methodLink RX5 100 yX5_wouldLeaveFor ∈ lwG := lwT_in (i := 1499) (by decide +kernel) (by decide +kernel)
theorem wm_X5_103 : Cond.methodLink RX5 103 yX6_copyAll ∈ lwG := lwT_in (i := 1503) (by decide +kernel) (by decide +kernel)
theorem wm_X5_107 : Cond.methodLink RX5 107 yX5_mostPairs ∈ lwG := lwT_in (i := 610) (by decide +kernel) (by decide +kernel)
theorem wm_X5_114 : Cond.methodLink RX5 114 yX9_askersOf ∈ lwG := lwT_in (i := 614) (by decide +kernel) (by decide +kernel)
theorem wm_X5_23 : Cond.methodLink RX5 23 yX9_isWed ∈ lwG := lwT_in (i := 605) (by decide +kernel) (by decide +kernel)
theorem wm_X5_33 : Cond.methodLink RX5 33 yX5_isBetter ∈ lwG := lwT_in (i := 1327) (by decide +kernel) (by decide +kernel)
theorem wm_X5_37 : Cond.methodLink RX5 37 yX9_insurersOfPair ∈ lwG := lwT_in (i := 1330) (by decide +kernel) (by decide +kernel)
theorem wm_X5_41 : Cond.methodLink RX5 41 yJ6_bitCount_0f7a4 ∈ lwG := lwT_in (i := 1331) (by decide +kernel) (by decide +kernel)
theorem wm_X5_47 : Cond.methodLink RX5 47 yX9_likingOf ∈ lwG := lwT_in (i := 588) (by decide +kernel) (by decide +kernel)
theorem wm_X5_50 : Cond.methodLink RX5 50 yX9_spouseOf ∈ lwG := lwT_in (i := 584) (by decide +kernel) (by decide +kernel)
theorem wm_X5_53 : Cond.methodLink RX5 53 yX9_isRuined ∈ lwG := lwT_in (i := 579) (by decide +kernel) (by decide +kernel)
theorem wm_X5_56 : Cond.methodLink RX5 56 yX5_preferred ∈ lwG := lwT_in (i := 580) (by decide +kernel) (by decide +kernel)
theorem wm_X5_64 : Cond.methodLink RX5 64 yX5_areLovers ∈ lwG := lwT_in (i := 575) (by decide +kernel) (by decide +kernel)
theorem wm_X5_71 : Cond.methodLink RX5 71 yX6_putAll ∈ lwG := lwT_in (i := 1486) (by decide +kernel) (by decide +kernel)
theorem wm_X5_74 : Cond.methodLink RX5 74 yX5_pairUp ∈ lwG := lwT_in (i := 1487) (by decide +kernel) (by decide +kernel)
theorem wm_X5_78 : Cond.methodLink RX5 78 yX5_steadyWays ∈ lwG := lwT_in (i := 1513) (by decide +kernel) (by decide +kernel)
theorem wm_X5_82 : Cond.methodLink RX5 82 yX6_at ∈ lwG := lwT_in (i := 613) (by decide +kernel) (by decide +kernel)
theorem wm_X5_85 : Cond.methodLink RX5 85 yX5_firstWithout ∈ lwG := lwT_in (i := 1491) (by decide +kernel) (by decide +kernel)
theorem wm_X5_88 : Cond.methodLink RX5 88 yX5_countIfSteady ∈ lwG := lwT_in (i := 1495) (by decide +kernel) (by decide +kernel)
theorem wm_X5_92 : Cond.methodLink RX5 92 yX5_tryPair ∈ lwG := lwT_in (i := 1504) (by decide +kernel) (by decide +kernel)
theorem wm_X5_96 : Cond.methodLink RX5 96 yX6_put ∈ lwG := lwT_in (i := 1508) (by decide +kernel) (by decide +kernel)
theorem wm_X7_104 : Cond.methodLink RX7 104 yX1_spelt ∈ lwG := lwT_in (i := 719) (by decide +kernel) (by decide +kernel)
theorem wm_X7_50 : Cond.methodLink RX7 50 yX6_copyAll ∈ lwG := lwT_in (i := 697) (by decide +kernel) (by decide +kernel)
theorem wm_X7_87 : Cond.methodLink RX7 87 yX6_at ∈ lwG := lwT_in (i := 706) (by decide +kernel) (by decide +kernel)
theorem wm_X7_94 : Cond.methodLink RX7 94 yX7_isLetter ∈ lwG := lwT_in (i := 707) (by decide +kernel) (by decide +kernel)
theorem wm_X7_98 : Cond.methodLink RX7 98 yX7_isDigit ∈ lwG := lwT_in (i := 710) (by decide +kernel) (by decide +kernel)
theorem wm_X8_33 : Cond.methodLink RX8 33 yX6_at ∈ lwG := lwT_in (i := 1529) (by decide +kernel) (by decide +kernel)
theorem wm_X8_37 : Cond.methodLink RX8 37 yX6_put ∈ lwG := lwT_in (i := 1530) (by decide +kernel) (by decide +kernel)
theorem wm_X8_41 : Cond.methodLink RX8 41 yJ6_bitCount_0f7a4 ∈ lwG := lwT_in (i := 1545) (by decide +kernel) (by decide +kernel)
theorem wm_X8_46 : Cond.methodLink RX8 46 yX6_putAll ∈ lwG := lwT_in (i := 1540) (by decide +kernel) (by decide +kernel)
theorem wm_X8_49 : Cond.methodLink RX8 49 yX8_fits ∈ lwG := lwT_in (i := 1541) (by decide +kernel) (by decide +kernel)
theorem wm_X8_53 : Cond.methodLink RX8 53 yX8_addMembers ∈ lwG := lwT_in (i := 1546) (by decide +kernel) (by decide +kernel)
theorem wm_X8_60 : Cond.methodLink RX8 60 yX8_fitting ∈ lwG := lwT_in (i := 1536) (by decide +kernel) (by decide +kernel)
theorem wm_X9_102 : Cond.methodLink RX9 102 yX9_isRuined ∈ lwG := lwT_in (i := 533) (by decide +kernel) (by decide +kernel)
theorem wm_X9_106 : Cond.methodLink RX9 106 yX9_ringSteps ∈ lwG := lwT_in (i := 559) (by decide +kernel) (by decide +kernel)
theorem wm_X9_109 : Cond.methodLink RX9 109 yX9_isLeastOfRing ∈ lwG := lwT_in (i := 563) (by decide +kernel) (by decide +kernel)
theorem wm_X9_112 : Cond.methodLink RX9 112 yX9_comesTo ∈ lwG := lwT_in (i := 1437) (by decide +kernel) (by decide +kernel)
theorem wm_X9_118 : Cond.methodLink RX9 118 yX9_isOver ∈ lwG := lwT_in (i := 503) (by decide +kernel) (by decide +kernel)
theorem wm_X9_121 : Cond.methodLink RX9 121 yX9_firstOf ∈ lwG := lwT_in (i := 504) (by decide +kernel) (by decide +kernel)
theorem wm_X9_124 : Cond.methodLink RX9 124 yX9_secondOf ∈ lwG := lwT_in (i := 512) (by decide +kernel) (by decide +kernel)
theorem wm_X9_127 : Cond.methodLink RX9 127 yX9_spouseOf ∈ lwG := lwT_in (i := 609) (by decide +kernel) (by decide +kernel)
theorem wm_X9_130 : Cond.methodLink RX9 130 yX9_isWed ∈ lwG := lwT_in (i := 673) (by decide +kernel) (by decide +kernel)
theorem wm_X9_133 : Cond.methodLink RX9 133 yJ6_bitCount_0f7a4 ∈ lwG := lwT_in (i := 523) (by decide +kernel) (by decide +kernel)
theorem wm_X9_138 : Cond.methodLink RX9 138 yX9_insurersOfPair ∈ lwG := lwT_in (i := 516) (by decide +kernel) (by decide +kernel)
theorem wm_X9_150 : Cond.methodLink RX9 150 yX9_insurersOf ∈ lwG := lwT_in (i := 499) (by decide +kernel) (by decide +kernel)
theorem wm_X9_156 : Cond.methodLink RX9 156 yX9_likingOf ∈ lwG := lwT_in (i := 1160) (by decide +kernel) (by decide +kernel)
theorem wm_X9_168 : Cond.methodLink RX9 168 yX9_passMatch ∈ lwG := lwT_in (i := 1287) (by decide +kernel) (by decide +kernel)
theorem wm_X9_177 : Cond.methodLink RX9 177 yX9_payPremiums ∈ lwG := lwT_in (i := 1291) (by decide +kernel) (by decide +kernel)
theorem wm_X9_180 : Cond.methodLink RX9 180 yX9_lookAt ∈ lwG := lwT_in (i := 1295) (by decide +kernel) (by decide +kernel)
theorem wm_X9_184 : Cond.methodLink RX9 184 yX4_happyTurned ∈ lwG := lwT_in (i := 1296) (by decide +kernel) (by decide +kernel)
theorem wm_X9_188 : Cond.methodLink RX9 188 yX9_payClaim ∈ lwG := lwT_in (i := 1302) (by decide +kernel) (by decide +kernel)
theorem wm_X9_191 : Cond.methodLink RX9 191 yX9_addToLog ∈ lwG := lwT_in (i := 1303) (by decide +kernel) (by decide +kernel)
theorem wm_X9_195 : Cond.methodLink RX9 195 yX9_endMatch ∈ lwG := lwT_in (i := 1307) (by decide +kernel) (by decide +kernel)
theorem wm_X9_198 : Cond.methodLink RX9 198 yX9_take ∈ lwG := lwT_in (i := 541) (by decide +kernel) (by decide +kernel)
theorem wm_X9_201 : Cond.methodLink RX9 201 yX9_give ∈ lwG := lwT_in (i := 547) (by decide +kernel) (by decide +kernel)
theorem wm_X9_204 : Cond.methodLink RX9 204 yX9_payOut ∈ lwG := lwT_in (i := 529) (by decide +kernel) (by decide +kernel)
theorem wm_X9_207 : Cond.methodLink RX9 207 yX9_ruinIfShort ∈ lwG := lwT_in (i := 537) (by decide +kernel) (by decide +kernel)
theorem wm_X9_210 : Cond.methodLink RX9 210 yX9_logRows ∈ lwG := lwT_in (i := 1598) (by decide +kernel) (by decide +kernel)
theorem wm_X9_213 : Cond.methodLink RX9 213 yX9_logged ∈ lwG := lwT_in (i := 1599) (by decide +kernel) (by decide +kernel)
theorem wm_X9_54 : Cond.methodLink RX9 54 yX9_copyPurses ∈ lwG := lwT_in (i := 473) (by decide +kernel) (by decide +kernel)
theorem wm_X9_58 : Cond.methodLink RX9 58 yX6_copyAll ∈ lwG := lwT_in (i := 477) (by decide +kernel) (by decide +kernel)
theorem wm_X9_86 : Cond.methodLink RX9 86 yX6_put ∈ lwG := lwT_in (i := 546) (by decide +kernel) (by decide +kernel)
theorem wm_X9_90 : Cond.methodLink RX9 90 yX6_at ∈ lwG := lwT_in (i := 508) (by decide +kernel) (by decide +kernel)
theorem wm_X9_98 : Cond.methodLink RX9 98 yX9_wealthOfAll ∈ lwG := lwT_in (i := 1106) (by decide +kernel) (by decide +kernel)
theorem wmx_X10_118 : Cond.methodLink RX10 118 ⟨"RivalWeds$TownText", "needs", "(LRivalWeds$Kind;)Z"⟩ ∈ lwG := lwT_in (i := 947) (by decide +kernel) (by decide +kernel)
theorem wmx_X10_61 : Cond.methodLink RX10 61 ⟨"RivalWeds$TownText", "refuse", "()Z"⟩ ∈ lwG := lwT_in (i := 892) (by decide +kernel) (by decide +kernel)
theorem wmx_X10_64 : Cond.methodLink RX10 64 ⟨"RivalWeds$TownText", "advance", "()V"⟩ ∈ lwG := lwT_in (i := 895) (by decide +kernel) (by decide +kernel)
theorem wmx_X10_67 : Cond.methodLink RX10 67 ⟨"RivalWeds$TownText", "takeNumber", "(I)I"⟩ ∈ lwG := lwT_in (i := 898) (by decide +kernel) (by decide +kernel)
theorem wmx_X11_109 : Cond.methodLink RX11 109 ⟨"RivalWeds$TownText", "linesOf", "(LRivalWeds$Row;II)I"⟩ ∈ lwG := lwT_in (i := 691) (by decide +kernel) (by decide +kernel)
theorem wmx_X11_139 : Cond.methodLink RX11 139 ⟨"RivalWeds$LawText", "linesOf", "(LRivalWeds$Row;II)I"⟩ ∈ lwG := lwT_in (i := 1064) (by decide +kernel) (by decide +kernel)
theorem wmx_X3_30 : Cond.methodLink RX3 30 ⟨"RivalWeds$LawText", "refuse", "()Z"⟩ ∈ lwG := lwT_in (i := 800) (by decide +kernel) (by decide +kernel)
theorem wmx_X3_34 : Cond.methodLink RX3 34 ⟨"RivalWeds$LawText", "advance", "()V"⟩ ∈ lwG := lwT_in (i := 806) (by decide +kernel) (by decide +kernel)
theorem wmx_X3_37 : Cond.methodLink RX3 37 ⟨"RivalWeds$LawText", "takeNumber", "(I)I"⟩ ∈ lwG := lwT_in (i := 810) (by decide +kernel) (by decide +kernel)
theorem wmx_X3_44 : Cond.methodLink RX3 44 ⟨"RivalWeds$LawText", "takes", "(LRivalWeds$Kind;)Z"⟩ ∈ lwG := lwT_in (i := 819) (by decide +kernel) (by decide +kernel)
theorem wmx_X3_80 : Cond.methodLink RX3 80 ⟨"RivalWeds$LawText", "needs", "(LRivalWeds$Kind;)Z"⟩ ∈ lwG := lwT_in (i := 843) (by decide +kernel) (by decide +kernel)
theorem wmx_X7_108 : Cond.methodLink RX7 108 ⟨"RivalWeds$Text", "numberAt", "(II)I"⟩ ∈ lwG := lwT_in (i := 780) (by decide +kernel) (by decide +kernel)
theorem wmx_X7_57 : Cond.methodLink RX7 57 ⟨"RivalWeds$Text", "cut", "()V"⟩ ∈ lwG := lwT_in (i := 698) (by decide +kernel) (by decide +kernel)
theorem wmx_X7_63 : Cond.methodLink RX7 63 ⟨"RivalWeds$Text", "advance", "()V"⟩ ∈ lwG := lwT_in (i := 784) (by decide +kernel) (by decide +kernel)
theorem wmx_X7_66 : Cond.methodLink RX7 66 ⟨"RivalWeds$Text", "readsLine", "()Z"⟩ ∈ lwG := lwT_in (i := 790) (by decide +kernel) (by decide +kernel)
theorem wmx_X7_73 : Cond.methodLink RX7 73 ⟨"RivalWeds$Text", "needs", "(LRivalWeds$Kind;)Z"⟩ ∈ lwG := lwT_in (i := 966) (by decide +kernel) (by decide +kernel)
theorem wmx_X7_77 : Cond.methodLink RX7 77 ⟨"RivalWeds$Text", "refuse", "()Z"⟩ ∈ lwG := lwT_in (i := 816) (by decide +kernel) (by decide +kernel)
theorem wmx_X7_83 : Cond.methodLink RX7 83 ⟨"RivalWeds$Text", "stopOf", "(I)I"⟩ ∈ lwG := lwT_in (i := 702) (by decide +kernel) (by decide +kernel)
theorem wmx_X7_90 : Cond.methodLink RX7 90 ⟨"RivalWeds$Text", "addThing", "(II)V"⟩ ∈ lwG := lwT_in (i := 713) (by decide +kernel) (by decide +kernel)
theorem wq_X10_begin : Cond.sameField RX10 RX7 "begin" "I" ∈ lwG := lwT_in (i := 213) (by decide +kernel) (by decide +kernel)
theorem wq_X10_bytes : Cond.sameField RX10 RX7 "bytes" "LRivalWeds$Row;" ∈ lwG := lwT_in (i := 199) (by decide +kernel) (by decide +kernel)
theorem wq_X10_kind : Cond.sameField RX10 RX7 "kind" "LRivalWeds$Kind;" ∈ lwG := lwT_in (i := 211) (by decide +kernel) (by decide +kernel)
theorem wq_X10_number : Cond.sameField RX10 RX7 "number" "I" ∈ lwG := lwT_in (i := 222) (by decide +kernel) (by decide +kernel)
theorem wq_X10_stop : Cond.sameField RX10 RX7 "stop" "I" ∈ lwG := lwT_in (i := 216) (by decide +kernel) (by decide +kernel)
theorem wq_X10_wrong : Cond.sameField RX10 RX7 "wrong" "I" ∈ lwG := lwT_in (i := 225) (by decide +kernel) (by decide +kernel)
theorem wq_X3_kind : Cond.sameField RX3 RX7 "kind" "LRivalWeds$Kind;" ∈ lwG := lwT_in (i := 209) (by decide +kernel) (by decide +kernel)
theorem wq_X3_number : Cond.sameField RX3 RX7 "number" "I" ∈ lwG := lwT_in (i := 220) (by decide +kernel) (by decide +kernel)
theorem wq_X3_wrong : Cond.sameField RX3 RX7 "wrong" "I" ∈ lwG := lwT_in (i := 227) (by decide +kernel) (by decide +kernel)
theorem ws_J0_checkIndex_df160 : Cond.static yJ0_checkIndex_df160 ∈ lwG := lwT_in (i := 751) (by decide +kernel) (by decide +kernel)
theorem ws_J1_charAt_3b067 : Cond.static yJ1_charAt_3b067 ∈ lwG := lwT_in (i := 748) (by decide +kernel) (by decide +kernel)
theorem ws_J3_checkIndex_8e157 : Cond.static yJ3_checkIndex_8e157 ∈ lwG := lwT_in (i := 756) (by decide +kernel) (by decide +kernel)
theorem ws_J6_bitCount_0f7a4 : Cond.static yJ6_bitCount_0f7a4 ∈ lwG := lwT_in (i := 524) (by decide +kernel) (by decide +kernel)
theorem ws_X11_contains : Cond.static yX11_contains ∈ lwG := lwT_in (i := 521) (by decide +kernel) (by decide +kernel)
theorem ws_X11_happyWithin : Cond.static yX11_happyWithin ∈ lwG := lwT_in (i := 1241) (by decide +kernel) (by decide +kernel)
theorem ws_X12_bits : Cond.static yX12_bits ∈ lwG := lwT_in (i := 1927) (by decide +kernel) (by decide +kernel)
theorem ws_X12_greater : Cond.static yX12_greater ∈ lwG := lwT_in (i := 1961) (by decide +kernel) (by decide +kernel)
theorem ws_X12_isIn : Cond.static yX12_isIn ∈ lwG := lwT_in (i := 1709) (by decide +kernel) (by decide +kernel)
theorem ws_X12_isOf : Cond.static yX12_isOf ∈ lwG := lwT_in (i := 1892) (by decide +kernel) (by decide +kernel)
theorem ws_X12_lesser : Cond.static yX12_lesser ∈ lwG := lwT_in (i := 1954) (by decide +kernel) (by decide +kernel)
theorem ws_X1_spelt : Cond.static yX1_spelt ∈ lwG := lwT_in (i := 720) (by decide +kernel) (by decide +kernel)
theorem ws_X2_isPart : Cond.static yX2_isPart ∈ lwG := lwT_in (i := 866) (by decide +kernel) (by decide +kernel)
theorem ws_X2_joined : Cond.static yX2_joined ∈ lwG := lwT_in (i := 1175) (by decide +kernel) (by decide +kernel)
theorem ws_X5_isBetter : Cond.static yX5_isBetter ∈ lwG := lwT_in (i := 1328) (by decide +kernel) (by decide +kernel)
theorem ws_X5_mostPairs : Cond.static yX5_mostPairs ∈ lwG := lwT_in (i := 611) (by decide +kernel) (by decide +kernel)
theorem ws_X7_isDigit : Cond.static yX7_isDigit ∈ lwG := lwT_in (i := 711) (by decide +kernel) (by decide +kernel)
theorem ws_X7_isLetter : Cond.static yX7_isLetter ∈ lwG := lwT_in (i := 708) (by decide +kernel) (by decide +kernel)
theorem wsm_X10_X7_advance : Cond.sameMethod "RivalWeds$TownText" "RivalWeds$Text" "advance" "()V" ∈ lwG := lwT_in (i := 896) (by decide +kernel) (by decide +kernel)
theorem wsm_X10_X7_linesOf : Cond.sameMethod "RivalWeds$TownText" "RivalWeds$Text" "linesOf" "(LRivalWeds$Row;II)I" ∈ lwG := lwT_in (i := 692) (by decide +kernel) (by decide +kernel)
theorem wsm_X10_X7_needs : Cond.sameMethod "RivalWeds$TownText" "RivalWeds$Text" "needs" "(LRivalWeds$Kind;)Z" ∈ lwG := lwT_in (i := 948) (by decide +kernel) (by decide +kernel)
theorem wsm_X10_X7_refuse : Cond.sameMethod "RivalWeds$TownText" "RivalWeds$Text" "refuse" "()Z" ∈ lwG := lwT_in (i := 893) (by decide +kernel) (by decide +kernel)
theorem wsm_X10_X7_takeNumber : Cond.sameMethod "RivalWeds$TownText" "RivalWeds$Text" "takeNumber" "(I)I" ∈ lwG := lwT_in (i := 899) (by decide +kernel) (by decide +kernel)
theorem wsm_X3_X7_advance : Cond.sameMethod "RivalWeds$LawText" "RivalWeds$Text" "advance" "()V" ∈ lwG := lwT_in (i := 807) (by decide +kernel) (by decide +kernel)
theorem wsm_X3_X7_linesOf : Cond.sameMethod "RivalWeds$LawText" "RivalWeds$Text" "linesOf" "(LRivalWeds$Row;II)I" ∈ lwG := lwT_in (i := 1065) (by decide +kernel) (by decide +kernel)
theorem wsm_X3_X7_needs : Cond.sameMethod "RivalWeds$LawText" "RivalWeds$Text" "needs" "(LRivalWeds$Kind;)Z" ∈ lwG := lwT_in (i := 844) (by decide +kernel) (by decide +kernel)
theorem wsm_X3_X7_refuse : Cond.sameMethod "RivalWeds$LawText" "RivalWeds$Text" "refuse" "()Z" ∈ lwG := lwT_in (i := 801) (by decide +kernel) (by decide +kernel)
theorem wsm_X3_X7_takeNumber : Cond.sameMethod "RivalWeds$LawText" "RivalWeds$Text" "takeNumber" "(I)I" ∈ lwG := lwT_in (i := 811) (by decide +kernel) (by decide +kernel)
theorem wsm_X3_X7_takes : Cond.sameMethod "RivalWeds$LawText" "RivalWeds$Text" "takes" "(LRivalWeds$Kind;)Z" ∈ lwG := lwT_in (i := 820) (by decide +kernel) (by decide +kernel)
theorem wsm_X7_X10_readsLine : Cond.sameMethod "RivalWeds$Text" "RivalWeds$Text" "readsLine" "()Z" ∈ lwG := lwT_in (i := 792) (by decide +kernel) (by decide +kernel)
theorem wsm_X7_X3_readsLine : Cond.sameMethod "RivalWeds$Text" "RivalWeds$Text" "readsLine" "()Z" ∈ lwG := lwT_in (i := 792) (by decide +kernel) (by decide +kernel)
theorem wsm_X7_X7_addThing : Cond.sameMethod "RivalWeds$Text" "RivalWeds$Text" "addThing" "(II)V" ∈ lwG := lwT_in (i := 2204) (by decide +kernel) (by decide +kernel)
theorem wsm_X7_X7_advance : Cond.sameMethod "RivalWeds$Text" "RivalWeds$Text" "advance" "()V" ∈ lwG := lwT_in (i := 786) (by decide +kernel) (by decide +kernel)
theorem wsm_X7_X7_cut : Cond.sameMethod "RivalWeds$Text" "RivalWeds$Text" "cut" "()V" ∈ lwG := lwT_in (i := 2202) (by decide +kernel) (by decide +kernel)
theorem wsm_X7_X7_needs : Cond.sameMethod "RivalWeds$Text" "RivalWeds$Text" "needs" "(LRivalWeds$Kind;)Z" ∈ lwG := lwT_in (i := 2209) (by decide +kernel) (by decide +kernel)
theorem wsm_X7_X7_numberAt : Cond.sameMethod "RivalWeds$Text" "RivalWeds$Text" "numberAt" "(II)I" ∈ lwG := lwT_in (i := 2205) (by decide +kernel) (by decide +kernel)
theorem wsm_X7_X7_refuse : Cond.sameMethod "RivalWeds$Text" "RivalWeds$Text" "refuse" "()Z" ∈ lwG := lwT_in (i := 2206) (by decide +kernel) (by decide +kernel)
theorem wsm_X7_X7_stopOf : Cond.sameMethod "RivalWeds$Text" "RivalWeds$Text" "stopOf" "(I)I" ∈ lwG := lwT_in (i := 2203) (by decide +kernel) (by decide +kernel)
theorem wxi_0 : Cond.initialized "java/lang/IllegalArgumentException" ∈ lwG := lwT_in (i := 24) (by decide +kernel) (by decide +kernel)
theorem wxi_1 : Cond.initialized "java/lang/IllegalStateException" ∈ lwG := lwT_in (i := 29) (by decide +kernel) (by decide +kernel)
theorem wxi_2 : Cond.initialized "java/lang/IndexOutOfBoundsException" ∈ lwG := lwT_in (i := 26) (by decide +kernel) (by decide +kernel)
theorem wxi_3 : Cond.initialized "java/lang/UnsupportedOperationException" ∈ lwG := lwT_in (i := 25) (by decide +kernel) (by decide +kernel)
theorem wxi_4 : Cond.initialized "java/util/NoSuchElementException" ∈ lwG := lwT_in (i := 27) (by decide +kernel) (by decide +kernel)
theorem wxk_116 : Cond.classLink RX11 116 "java/lang/IllegalArgumentException" ∈ lwG := lwT_in (i := 967) (by decide +kernel) (by decide +kernel)
theorem wxk_126 : Cond.classLink RX11 126 "java/lang/UnsupportedOperationException" ∈ lwG := lwT_in (i := 1037) (by decide +kernel) (by decide +kernel)
theorem wxk_175 : Cond.classLink RX11 175 "java/util/NoSuchElementException" ∈ lwG := lwT_in (i := 1107) (by decide +kernel) (by decide +kernel)
theorem wxk_224 : Cond.classLink RX11 224 "java/lang/IllegalStateException" ∈ lwG := lwT_in (i := 1199) (by decide +kernel) (by decide +kernel)
theorem wxk_426 : Cond.classLink RX11 426 "java/lang/IndexOutOfBoundsException" ∈ lwG := lwT_in (i := 1082) (by decide +kernel) (by decide +kernel)
theorem wz_J0 : Cond.initialized RJ0 ∈ lwG := lwT_in (i := 17) (by decide +kernel) (by decide +kernel)
theorem wz_J1 : Cond.initialized RJ1 ∈ lwG := lwT_in (i := 18) (by decide +kernel) (by decide +kernel)
theorem wz_J3 : Cond.initialized RJ3 ∈ lwG := lwT_in (i := 19) (by decide +kernel) (by decide +kernel)
theorem wz_J6 : Cond.initialized RJ6 ∈ lwG := lwT_in (i := 28) (by decide +kernel) (by decide +kernel)
theorem wz_X0 : Cond.initialized RX0 ∈ lwG := lwT_in (i := 11) (by decide +kernel) (by decide +kernel)
theorem wz_X1 : Cond.initialized RX1 ∈ lwG := lwT_in (i := 8) (by decide +kernel) (by decide +kernel)
theorem wz_X10 : Cond.initialized RX10 ∈ lwG := lwT_in (i := 6) (by decide +kernel) (by decide +kernel)
theorem wz_X11 : Cond.initialized RX11 ∈ lwG := lwT_in (i := 1) (by decide +kernel) (by decide +kernel)
theorem wz_X12 : Cond.initialized RX12 ∈ lwG := lwT_in (i := 14) (by decide +kernel) (by decide +kernel)
theorem wz_X2 : Cond.initialized RX2 ∈ lwG := lwT_in (i := 4) (by decide +kernel) (by decide +kernel)
theorem wz_X3 : Cond.initialized RX3 ∈ lwG := lwT_in (i := 9) (by decide +kernel) (by decide +kernel)
theorem wz_X4 : Cond.initialized RX4 ∈ lwG := lwT_in (i := 10) (by decide +kernel) (by decide +kernel)
theorem wz_X5 : Cond.initialized RX5 ∈ lwG := lwT_in (i := 12) (by decide +kernel) (by decide +kernel)
theorem wz_X6 : Cond.initialized RX6 ∈ lwG := lwT_in (i := 2) (by decide +kernel) (by decide +kernel)
theorem wz_X7 : Cond.initialized RX7 ∈ lwG := lwT_in (i := 5) (by decide +kernel) (by decide +kernel)
theorem wz_X8 : Cond.initialized RX8 ∈ lwG := lwT_in (i := 13) (by decide +kernel) (by decide +kernel)
theorem wz_X9 : Cond.initialized RX9 ∈ lwG := lwT_in (i := 3) (by decide +kernel) (by decide +kernel)
theorem gb_J0_checkIndex_df160 : GoodIn lwG (wA yJ0_checkIndex_df160 cJ0_checkIndex_df160 2 none) := gA0 wc_J0_checkIndex_df160
theorem gb_J1_charAt_3b067 : GoodIn lwG (wA yJ1_charAt_3b067 cJ1_charAt_3b067 2 (some .char)) := gA0 wc_J1_charAt_3b067
theorem gb_J3_checkIndex_8e157 : GoodIn lwG (wA yJ3_checkIndex_8e157 cJ3_checkIndex_8e157 3 (some .int)) := gA0 wc_J3_checkIndex_8e157
theorem gb_J6_bitCount_0f7a4 : GoodIn lwG (wA yJ6_bitCount_0f7a4 cJ6_bitCount_0f7a4 1 (some .int)) := gA0 wc_J6_bitCount_0f7a4
theorem gb_X11_contains : GoodIn lwG (wA yX11_contains cX11_contains 2 (some .boolean)) := gA0 wc_X11_contains
theorem gb_X11_happyWithin : GoodIn lwG (wA yX11_happyWithin cX11_happyWithin 1 (some .int)) := gA0 wc_X11_happyWithin
theorem gb_X1_spelt : GoodIn lwG (wA yX1_spelt cX1_spelt 7 (some (.object "RivalWeds$Kind"))) := gA0 wc_X1_spelt
theorem gb_X2_isPart : GoodIn lwG (wA yX2_isPart cX2_isPart 1 (some .boolean)) := gA0 wc_X2_isPart
theorem gs_X11_437 : GoodIn lwG (wsS RX11 437 yX11_contains (wA yX11_contains cX11_contains 2 (some .boolean))) := gA3 wm_X11_437 ws_X11_contains wz_X11 wc_X11_contains
theorem gs_X12_263 : GoodIn lwG (wsS RX12 263 yX12_lesser (wA yX12_lesser cX12_lesser 2 (some .int))) := gA3 wm_X12_263 ws_X12_lesser wz_X12 wc_X12_lesser
theorem gs_X12_266 : GoodIn lwG (wsS RX12 266 yX12_greater (wA yX12_greater cX12_greater 2 (some .int))) := gA3 wm_X12_266 ws_X12_greater wz_X12 wc_X12_greater
theorem gs_X12_54 : GoodIn lwG (wsS RX12 54 yX12_isIn (wA yX12_isIn cX12_isIn 3 (some .boolean))) := gA3 wm_X12_54 ws_X12_isIn wz_X12 wc_X12_isIn
theorem gs_X12_65 : GoodIn lwG (wsS RX12 65 yX12_isOf (wA yX12_isOf cX12_isOf 2 (some .boolean))) := gA3 wm_X12_65 ws_X12_isOf wz_X12 wc_X12_isOf
theorem gs_X12_69 : GoodIn lwG (wsS RX12 69 yX12_bits (wA yX12_bits cX12_bits 3 (some .int))) := gA3 wm_X12_69 ws_X12_bits wz_X12 wc_X12_bits
theorem gs_X2_76 : GoodIn lwG (wsS RX2 76 yX2_joined (wA yX2_joined cX2_joined 3 (some .int))) := gA3 wm_X2_76 ws_X2_joined wz_X2 wc_X2_joined
theorem gs_X5_107 : GoodIn lwG (wsS RX5 107 yX5_mostPairs (wA yX5_mostPairs cX5_mostPairs 6 (some .int))) := gA3 wm_X5_107 ws_X5_mostPairs wz_X5 wc_X5_mostPairs
theorem gs_X5_33 : GoodIn lwG (wsS RX5 33 yX5_isBetter (wA yX5_isBetter cX5_isBetter 5 (some .boolean))) := gA3 wm_X5_33 ws_X5_isBetter wz_X5 wc_X5_isBetter
theorem gs_X7_94 : GoodIn lwG (wsS RX7 94 yX7_isLetter (wA yX7_isLetter cX7_isLetter 1 (some .boolean))) := gA3 wm_X7_94 ws_X7_isLetter wz_X7 wc_X7_isLetter
theorem gs_X7_98 : GoodIn lwG (wsS RX7 98 yX7_isDigit (wA yX7_isDigit cX7_isDigit 1 (some .boolean))) := gA3 wm_X7_98 ws_X7_isDigit wz_X7 wc_X7_isDigit
theorem gu_X10_118_X10 : GoodIn lwG (va_wsU RX10 118 RX10 "RivalWeds$Text" ⟨"RivalWeds$TownText", "needs", "(LRivalWeds$Kind;)Z"⟩ yX7_needs (wA yX7_needs cX7_needs 2 (some .boolean))) := gA5 wmx_X10_118 wsm_X10_X7_needs wlx_X10_X10_X7_needs wi_X7_needs wz_X7 wc_X7_needs
theorem gu_X10_61_X10 : GoodIn lwG (va_wsU RX10 61 RX10 "RivalWeds$Text" ⟨"RivalWeds$TownText", "refuse", "()Z"⟩ yX7_refuse (wA yX7_refuse cX7_refuse 1 (some .boolean))) := gA5 wmx_X10_61 wsm_X10_X7_refuse wlx_X10_X10_X7_refuse wi_X7_refuse wz_X7 wc_X7_refuse
theorem gu_X10_64_X10 : GoodIn lwG (va_wsU RX10 64 RX10 "RivalWeds$Text" ⟨"RivalWeds$TownText", "advance", "()V"⟩ yX7_advance (wA yX7_advance cX7_advance 1 none)) := gA5 wmx_X10_64 wsm_X10_X7_advance wlx_X10_X10_X7_advance wi_X7_advance wz_X7 wc_X7_advance
theorem gu_X10_67_X10 : GoodIn lwG (va_wsU RX10 67 RX10 "RivalWeds$Text" ⟨"RivalWeds$TownText", "takeNumber", "(I)I"⟩ yX7_takeNumber (wA yX7_takeNumber cX7_takeNumber 3 (some .int))) := gA5 wmx_X10_67 wsm_X10_X7_takeNumber wlx_X10_X10_X7_takeNumber wi_X7_takeNumber wz_X7 wc_X7_takeNumber
theorem gu_X11_109_X10 : GoodIn lwG (va_wsU RX11 109 RX10 "RivalWeds$Text" ⟨"RivalWeds$TownText", "linesOf", "(LRivalWeds$Row;II)I"⟩ yX7_linesOf (wA yX7_linesOf cX7_linesOf 5 (some .int))) := gA5 wmx_X11_109 wsm_X10_X7_linesOf wlx_X10_X10_X7_linesOf wi_X7_linesOf wz_X7 wc_X7_linesOf
theorem gu_X11_139_X3 : GoodIn lwG (va_wsU RX11 139 RX3 "RivalWeds$Text" ⟨"RivalWeds$LawText", "linesOf", "(LRivalWeds$Row;II)I"⟩ yX7_linesOf (wA yX7_linesOf cX7_linesOf 5 (some .int))) := gA5 wmx_X11_139 wsm_X3_X7_linesOf wlx_X3_X3_X7_linesOf wi_X7_linesOf wz_X7 wc_X7_linesOf
theorem gu_X3_30_X3 : GoodIn lwG (va_wsU RX3 30 RX3 "RivalWeds$Text" ⟨"RivalWeds$LawText", "refuse", "()Z"⟩ yX7_refuse (wA yX7_refuse cX7_refuse 1 (some .boolean))) := gA5 wmx_X3_30 wsm_X3_X7_refuse wlx_X3_X3_X7_refuse wi_X7_refuse wz_X7 wc_X7_refuse
theorem gu_X3_34_X3 : GoodIn lwG (va_wsU RX3 34 RX3 "RivalWeds$Text" ⟨"RivalWeds$LawText", "advance", "()V"⟩ yX7_advance (wA yX7_advance cX7_advance 1 none)) := gA5 wmx_X3_34 wsm_X3_X7_advance wlx_X3_X3_X7_advance wi_X7_advance wz_X7 wc_X7_advance
theorem gu_X3_37_X3 : GoodIn lwG (va_wsU RX3 37 RX3 "RivalWeds$Text" ⟨"RivalWeds$LawText", "takeNumber", "(I)I"⟩ yX7_takeNumber (wA yX7_takeNumber cX7_takeNumber 3 (some .int))) := gA5 wmx_X3_37 wsm_X3_X7_takeNumber wlx_X3_X3_X7_takeNumber wi_X7_takeNumber wz_X7 wc_X7_takeNumber
theorem gu_X3_44_X3 : GoodIn lwG (va_wsU RX3 44 RX3 "RivalWeds$Text" ⟨"RivalWeds$LawText", "takes", "(LRivalWeds$Kind;)Z"⟩ yX7_takes (wA yX7_takes cX7_takes 2 (some .boolean))) := gA5 wmx_X3_44 wsm_X3_X7_takes wlx_X3_X3_X7_takes wi_X7_takes wz_X7 wc_X7_takes
theorem gu_X3_80_X3 : GoodIn lwG (va_wsU RX3 80 RX3 "RivalWeds$Text" ⟨"RivalWeds$LawText", "needs", "(LRivalWeds$Kind;)Z"⟩ yX7_needs (wA yX7_needs cX7_needs 2 (some .boolean))) := gA5 wmx_X3_80 wsm_X3_X7_needs wlx_X3_X3_X7_needs wi_X7_needs wz_X7 wc_X7_needs
theorem gu_X7_108_X10 : GoodIn lwG (va_wsU RX7 108 RX10 "RivalWeds$Text" ⟨"RivalWeds$Text", "numberAt", "(II)I"⟩ yX7_numberAt (wA yX7_numberAt cX7_numberAt 5 (some .int))) := gA5 wmx_X7_108 wsm_X7_X7_numberAt wlx_X10_X7_X7_numberAt wi_X7_numberAt wz_X7 wc_X7_numberAt
theorem gu_X7_108_X3 : GoodIn lwG (va_wsU RX7 108 RX3 "RivalWeds$Text" ⟨"RivalWeds$Text", "numberAt", "(II)I"⟩ yX7_numberAt (wA yX7_numberAt cX7_numberAt 5 (some .int))) := gA5 wmx_X7_108 wsm_X7_X7_numberAt wlx_X3_X7_X7_numberAt wi_X7_numberAt wz_X7 wc_X7_numberAt
theorem gu_X7_57_X10 : GoodIn lwG (va_wsU RX7 57 RX10 "RivalWeds$Text" ⟨"RivalWeds$Text", "cut", "()V"⟩ yX7_cut (wA yX7_cut cX7_cut 4 none)) := gA5 wmx_X7_57 wsm_X7_X7_cut wlx_X10_X7_X7_cut wi_X7_cut wz_X7 wc_X7_cut
theorem gu_X7_57_X3 : GoodIn lwG (va_wsU RX7 57 RX3 "RivalWeds$Text" ⟨"RivalWeds$Text", "cut", "()V"⟩ yX7_cut (wA yX7_cut cX7_cut 4 none)) := gA5 wmx_X7_57 wsm_X7_X7_cut wlx_X3_X7_X7_cut wi_X7_cut wz_X7 wc_X7_cut
theorem gu_X7_63_X10 : GoodIn lwG (va_wsU RX7 63 RX10 "RivalWeds$Text" ⟨"RivalWeds$Text", "advance", "()V"⟩ yX7_advance (wA yX7_advance cX7_advance 1 none)) := gA5 wmx_X7_63 wsm_X7_X7_advance wlx_X10_X7_X7_advance wi_X7_advance wz_X7 wc_X7_advance
theorem gu_X7_63_X3 : GoodIn lwG (va_wsU RX7 63 RX3 "RivalWeds$Text" ⟨"RivalWeds$Text", "advance", "()V"⟩ yX7_advance (wA yX7_advance cX7_advance 1 none)) := gA5 wmx_X7_63 wsm_X7_X7_advance wlx_X3_X7_X7_advance wi_X7_advance wz_X7 wc_X7_advance
theorem gu_X7_66_X10 : GoodIn lwG (va_wsU RX7 66 RX10 "RivalWeds$Text" ⟨"RivalWeds$Text", "readsLine", "()Z"⟩ yX10_readsLine (wA yX10_readsLine cX10_readsLine 1 (some .boolean))) := gA5 wmx_X7_66 wsm_X7_X10_readsLine wlx_X10_X7_X10_readsLine wi_X10_readsLine wz_X10 wc_X10_readsLine
theorem gu_X7_66_X3 : GoodIn lwG (va_wsU RX7 66 RX3 "RivalWeds$Text" ⟨"RivalWeds$Text", "readsLine", "()Z"⟩ yX3_readsLine (wA yX3_readsLine cX3_readsLine 3 (some .boolean))) := gA5 wmx_X7_66 wsm_X7_X3_readsLine wlx_X3_X7_X3_readsLine wi_X3_readsLine wz_X3 wc_X3_readsLine
theorem gu_X7_73_X10 : GoodIn lwG (va_wsU RX7 73 RX10 "RivalWeds$Text" ⟨"RivalWeds$Text", "needs", "(LRivalWeds$Kind;)Z"⟩ yX7_needs (wA yX7_needs cX7_needs 2 (some .boolean))) := gA5 wmx_X7_73 wsm_X7_X7_needs wlx_X10_X7_X7_needs wi_X7_needs wz_X7 wc_X7_needs
theorem gu_X7_73_X3 : GoodIn lwG (va_wsU RX7 73 RX3 "RivalWeds$Text" ⟨"RivalWeds$Text", "needs", "(LRivalWeds$Kind;)Z"⟩ yX7_needs (wA yX7_needs cX7_needs 2 (some .boolean))) := gA5 wmx_X7_73 wsm_X7_X7_needs wlx_X3_X7_X7_needs wi_X7_needs wz_X7 wc_X7_needs
theorem gu_X7_77_X10 : GoodIn lwG (va_wsU RX7 77 RX10 "RivalWeds$Text" ⟨"RivalWeds$Text", "refuse", "()Z"⟩ yX7_refuse (wA yX7_refuse cX7_refuse 1 (some .boolean))) := gA5 wmx_X7_77 wsm_X7_X7_refuse wlx_X10_X7_X7_refuse wi_X7_refuse wz_X7 wc_X7_refuse
theorem gu_X7_77_X3 : GoodIn lwG (va_wsU RX7 77 RX3 "RivalWeds$Text" ⟨"RivalWeds$Text", "refuse", "()Z"⟩ yX7_refuse (wA yX7_refuse cX7_refuse 1 (some .boolean))) := gA5 wmx_X7_77 wsm_X7_X7_refuse wlx_X3_X7_X7_refuse wi_X7_refuse wz_X7 wc_X7_refuse
theorem gu_X7_83_X10 : GoodIn lwG (va_wsU RX7 83 RX10 "RivalWeds$Text" ⟨"RivalWeds$Text", "stopOf", "(I)I"⟩ yX7_stopOf (wA yX7_stopOf cX7_stopOf 5 (some .int))) := gA5 wmx_X7_83 wsm_X7_X7_stopOf wlx_X10_X7_X7_stopOf wi_X7_stopOf wz_X7 wc_X7_stopOf
theorem gu_X7_83_X3 : GoodIn lwG (va_wsU RX7 83 RX3 "RivalWeds$Text" ⟨"RivalWeds$Text", "stopOf", "(I)I"⟩ yX7_stopOf (wA yX7_stopOf cX7_stopOf 5 (some .int))) := gA5 wmx_X7_83 wsm_X7_X7_stopOf wlx_X3_X7_X7_stopOf wi_X7_stopOf wz_X7 wc_X7_stopOf
theorem gu_X7_90_X10 : GoodIn lwG (va_wsU RX7 90 RX10 "RivalWeds$Text" ⟨"RivalWeds$Text", "addThing", "(II)V"⟩ yX7_addThing (wA yX7_addThing cX7_addThing 4 none)) := gA5 wmx_X7_90 wsm_X7_X7_addThing wlx_X10_X7_X7_addThing wi_X7_addThing wz_X7 wc_X7_addThing
theorem gu_X7_90_X3 : GoodIn lwG (va_wsU RX7 90 RX3 "RivalWeds$Text" ⟨"RivalWeds$Text", "addThing", "(II)V"⟩ yX7_addThing (wA yX7_addThing cX7_addThing 4 none)) := gA5 wmx_X7_90 wsm_X7_X7_addThing wlx_X3_X7_X7_addThing wi_X7_addThing wz_X7 wc_X7_addThing
theorem gv_J0_335 : GoodIn lwG (wsV RJ0 335 RJ0 yJ0_coder_7d493 (wA yJ0_coder_7d493 cJ0_coder_7d493 1 (some .byte))) := gA4 wm_J0_335 wi_J0_coder_7d493 wl_J0_J0_coder_7d493 wz_J0 wc_J0_coder_7d493
theorem gv_J0_492 : GoodIn lwG (wsV RJ0 492 RJ0 yJ0_isLatin1_aae02 (wA yJ0_isLatin1_aae02 cJ0_isLatin1_aae02 1 (some .boolean))) := gA4 wm_J0_492 wi_J0_isLatin1_aae02 wl_J0_J0_isLatin1_aae02 wz_J0 wc_J0_isLatin1_aae02
theorem gv_X0_102 : GoodIn lwG (wsV RX0 102 RX9 yX9_isOver (wA yX9_isOver cX9_isOver 2 (some .boolean))) := gA4 wm_X0_102 wi_X9_isOver wl_X9_X9_isOver wz_X9 wc_X9_isOver
theorem gv_X0_106 : GoodIn lwG (wsV RX0 106 RX9 yX9_payClaim (wA yX9_payClaim cX9_payClaim 5 (some .int))) := gA4 wm_X0_106 wi_X9_payClaim wl_X9_X9_payClaim wz_X9 wc_X9_payClaim
theorem gv_X0_109 : GoodIn lwG (wsV RX0 109 RX9 yX9_copyAll (wA yX9_copyAll cX9_copyAll 2 none)) := gA4 wm_X0_109 wi_X9_copyAll wl_X9_X9_copyAll wz_X9 wc_X9_copyAll
theorem gv_X0_112 : GoodIn lwG (wsV RX0 112 RX0 yX0_claimAll (wA yX0_claimAll cX0_claimAll 2 none)) := gA4 wm_X0_112 wi_X0_claimAll wl_X0_X0_claimAll wz_X0 wc_X0_claimAll
theorem gv_X0_124 : GoodIn lwG (wsV RX0 124 RX9 yX9_copyPurses (wA yX9_copyPurses cX9_copyPurses 2 none)) := gA4 wm_X0_124 wi_X9_copyPurses wl_X9_X9_copyPurses wz_X9 wc_X9_copyPurses
theorem gv_X0_134 : GoodIn lwG (wsV RX0 134 RX9 yX9_passMonth (wA yX9_passMonth cX9_passMonth 4 none)) := gA4 wm_X0_134 wi_X9_passMonth wl_X9_X9_passMonth wz_X9 wc_X9_passMonth
theorem gv_X0_41 : GoodIn lwG (wsV RX0 41 RX9 yX9_lookAt (wA yX9_lookAt cX9_lookAt 6 none)) := gA4 wm_X0_41 wi_X9_lookAt wl_X9_X9_lookAt wz_X9 wc_X9_lookAt
theorem gv_X0_45 : GoodIn lwG (wsV RX0 45 RX2 yX2_turnsBy (wA yX2_turnsBy cX2_turnsBy 6 (some .int))) := gA4 wm_X0_45 wi_X2_turnsBy wl_X2_X2_turnsBy wz_X2 wc_X2_turnsBy
theorem gv_X0_51 : GoodIn lwG (wsV RX0 51 RX4 yX4_happyTurned (wA yX4_happyTurned cX4_happyTurned 2 (some .int))) := gA4 wm_X0_51 wi_X4_happyTurned wl_X4_X4_happyTurned wz_X4 wc_X4_happyTurned
theorem gv_X0_55 : GoodIn lwG (wsV RX0 55 RX4 yX4_happyBehindMonth (wA yX4_happyBehindMonth cX4_happyBehindMonth 2 (some .int))) := gA4 wm_X0_55 wi_X4_happyBehindMonth wl_X4_X4_happyBehindMonth wz_X4 wc_X4_happyBehindMonth
theorem gv_X0_61 : GoodIn lwG (wsV RX0 61 RX4 yX4_passTime (wA yX4_passTime cX4_passTime 1 none)) := gA4 wm_X0_61 wi_X4_passTime wl_X4_X4_passTime wz_X4 wc_X4_passTime
theorem gv_X0_68 : GoodIn lwG (wsV RX0 68 RX6 yX6_putAll (wA yX6_putAll cX6_putAll 3 none)) := gA4 wm_X0_68 wi_X6_putAll wl_X6_X6_putAll wz_X6 wc_X6_putAll
theorem gv_X0_71 : GoodIn lwG (wsV RX0 71 RX6 yX6_put (wA yX6_put cX6_put 3 none)) := gA4 wm_X0_71 wi_X6_put wl_X6_X6_put wz_X6 wc_X6_put
theorem gv_X0_75 : GoodIn lwG (wsV RX0 75 RX0 yX0_addGifts (wA yX0_addGifts cX0_addGifts 3 none)) := gA4 wm_X0_75 wi_X0_addGifts wl_X0_X0_addGifts wz_X0 wc_X0_addGifts
theorem gv_X0_78 : GoodIn lwG (wsV RX0 78 RX0 yX0_passCosts (wA yX0_passCosts cX0_passCosts 5 none)) := gA4 wm_X0_78 wi_X0_passCosts wl_X0_X0_passCosts wz_X0 wc_X0_passCosts
theorem gv_X0_82 : GoodIn lwG (wsV RX0 82 RX6 yX6_at (wA yX6_at cX6_at 2 (some .int))) := gA4 wm_X0_82 wi_X6_at wl_X6_X6_at wz_X6 wc_X6_at
theorem gv_X0_95 : GoodIn lwG (wsV RX0 95 RX6 yX6_copyAll (wA yX6_copyAll cX6_copyAll 2 none)) := gA4 wm_X0_95 wi_X6_copyAll wl_X6_X6_copyAll wz_X6 wc_X6_copyAll
theorem gv_X10_101 : GoodIn lwG (wsV RX10 101 RX9 yX9_addAsked (wA yX9_addAsked cX9_addAsked 4 (some .boolean))) := gA4 wm_X10_101 wi_X9_addAsked wl_X9_X9_addAsked wz_X9 wc_X9_addAsked
theorem gv_X10_108 : GoodIn lwG (wsV RX10 108 RX6 yX6_put (wA yX6_put cX6_put 3 none)) := gA4 wm_X10_108 wi_X6_put wl_X6_X6_put wz_X6 wc_X6_put
theorem gv_X10_121 : GoodIn lwG (wsV RX10 121 RX9 yX9_addMatch (wA yX9_addMatch cX9_addMatch 5 (some .int))) := gA4 wm_X10_121 wi_X9_addMatch wl_X9_X9_addMatch wz_X9 wc_X9_addMatch
theorem gv_X10_146 : GoodIn lwG (wsV RX10 146 RX9 yX9_hasPerson (wA yX9_hasPerson cX9_hasPerson 2 (some .boolean))) := gA4 wm_X10_146 wi_X9_hasPerson wl_X9_X9_hasPerson wz_X9 wc_X9_hasPerson
theorem gv_X10_150 : GoodIn lwG (wsV RX10 150 RX9 yX9_spouseOf (wA yX9_spouseOf cX9_spouseOf 3 (some .int))) := gA4 wm_X10_150 wi_X9_spouseOf wl_X9_X9_spouseOf wz_X9 wc_X9_spouseOf
theorem gv_X10_27 : GoodIn lwG (wsV RX10 27 RX10 yX10_readsPerson (wA yX10_readsPerson cX10_readsPerson 2 (some .boolean))) := gA4 wm_X10_27 wi_X10_readsPerson wl_X10_X10_readsPerson wz_X10 wc_X10_readsPerson
theorem gv_X10_34 : GoodIn lwG (wsV RX10 34 RX10 yX10_readsLikes (wA yX10_readsLikes cX10_readsLikes 3 (some .boolean))) := gA4 wm_X10_34 wi_X10_readsLikes wl_X10_X10_readsLikes wz_X10 wc_X10_readsLikes
theorem gv_X10_43 : GoodIn lwG (wsV RX10 43 RX10 yX10_readsTwo (wA yX10_readsTwo cX10_readsTwo 4 (some .boolean))) := gA4 wm_X10_43 wi_X10_readsTwo wl_X10_X10_readsTwo wz_X10 wc_X10_readsTwo
theorem gv_X10_50 : GoodIn lwG (wsV RX10 50 RX10 yX10_readsWed (wA yX10_readsWed cX10_readsWed 4 (some .boolean))) := gA4 wm_X10_50 wi_X10_readsWed wl_X10_X10_readsWed wz_X10 wc_X10_readsWed
theorem gv_X10_53 : GoodIn lwG (wsV RX10 53 RX10 yX10_readsSetting (wA yX10_readsSetting cX10_readsSetting 3 (some .boolean))) := gA4 wm_X10_53 wi_X10_readsSetting wl_X10_X10_readsSetting wz_X10 wc_X10_readsSetting
theorem gv_X10_71 : GoodIn lwG (wsV RX10 71 RX9 yX9_addPerson (wA yX9_addPerson cX9_addPerson 2 none)) := gA4 wm_X10_71 wi_X9_addPerson wl_X9_X9_addPerson wz_X9 wc_X9_addPerson
theorem gv_X10_75 : GoodIn lwG (wsV RX10 75 RX10 yX10_takeSomebody (wA yX10_takeSomebody cX10_takeSomebody 5 (some .int))) := gA4 wm_X10_75 wi_X10_takeSomebody wl_X10_X10_takeSomebody wz_X10 wc_X10_takeSomebody
theorem gv_X10_92 : GoodIn lwG (wsV RX10 92 RX6 yX6_at (wA yX6_at cX6_at 2 (some .int))) := gA4 wm_X10_92 wi_X6_at wl_X6_X6_at wz_X6 wc_X6_at
theorem gv_X10_97 : GoodIn lwG (wsV RX10 97 RX9 yX9_setLiking (wA yX9_setLiking cX9_setLiking 4 none)) := gA4 wm_X10_97 wi_X9_setLiking wl_X9_X9_setLiking wz_X9 wc_X9_setLiking
theorem gv_X11_101 : GoodIn lwG (wsV RX11 101 RX9 yX9_copyAll (wA yX9_copyAll cX9_copyAll 2 none)) := gA4 wm_X11_101 wi_X9_copyAll wl_X9_X9_copyAll wz_X9 wc_X9_copyAll
theorem gv_X11_105 : GoodIn lwG (wsV RX11 105 RX11 yX11_useTapeUp (wA yX11_useTapeUp cX11_useTapeUp 2 (some .int))) := gA4 wm_X11_105 wi_X11_useTapeUp wl_X11_X11_useTapeUp wz_X11 wc_X11_useTapeUp
theorem gv_X11_131 : GoodIn lwG (wsV RX11 131 RX11 yX11_forgetActs (wA yX11_forgetActs cX11_forgetActs 1 none)) := gA4 wm_X11_131 wi_X11_forgetActs wl_X11_X11_forgetActs wz_X11 wc_X11_forgetActs
theorem gv_X11_136 : GoodIn lwG (wsV RX11 136 RX2 yX2_clearLines (wA yX2_clearLines cX2_clearLines 1 none)) := gA4 wm_X11_136 wi_X2_clearLines wl_X2_X2_clearLines wz_X2 wc_X2_clearLines
theorem gv_X11_143 : GoodIn lwG (wsV RX11 143 RX2 yX2_copyAll (wA yX2_copyAll cX2_copyAll 2 none)) := gA4 wm_X11_143 wi_X2_copyAll wl_X2_X2_copyAll wz_X2 wc_X2_copyAll
theorem gv_X11_146 : GoodIn lwG (wsV RX11 146 RX11 yX11_checkPerson (wA yX11_checkPerson cX11_checkPerson 2 none)) := gA4 wm_X11_146 wi_X11_checkPerson wl_X11_X11_checkPerson wz_X11 wc_X11_checkPerson
theorem gv_X11_152 : GoodIn lwG (wsV RX11 152 RX6 yX6_at (wA yX6_at cX6_at 2 (some .int))) := gA4 wm_X11_152 wi_X6_at wl_X6_X6_at wz_X6 wc_X6_at
theorem gv_X11_159 : GoodIn lwG (wsV RX11 159 RX9 yX9_askersOf (wA yX9_askersOf cX9_askersOf 4 (some .int))) := gA4 wm_X11_159 wi_X9_askersOf wl_X9_X9_askersOf wz_X9 wc_X9_askersOf
theorem gv_X11_165 : GoodIn lwG (wsV RX11 165 RX9 yX9_isRuined (wA yX9_isRuined cX9_isRuined 2 (some .boolean))) := gA4 wm_X11_165 wi_X9_isRuined wl_X9_X9_isRuined wz_X9 wc_X9_isRuined
theorem gv_X11_169 : GoodIn lwG (wsV RX11 169 RX9 yX9_spouseOf (wA yX9_spouseOf cX9_spouseOf 3 (some .int))) := gA4 wm_X11_169 wi_X9_spouseOf wl_X9_X9_spouseOf wz_X9 wc_X9_spouseOf
theorem gv_X11_172 : GoodIn lwG (wsV RX11 172 RX9 yX9_shareOf (wA yX9_shareOf cX9_shareOf 3 (some .int))) := gA4 wm_X11_172 wi_X9_shareOf wl_X9_X9_shareOf wz_X9 wc_X9_shareOf
theorem gv_X11_180 : GoodIn lwG (wsV RX11 180 RX11 yX11_checkTwo (wA yX11_checkTwo cX11_checkTwo 3 none)) := gA4 wm_X11_180 wi_X11_checkTwo wl_X11_X11_checkTwo wz_X11 wc_X11_checkTwo
theorem gv_X11_183 : GoodIn lwG (wsV RX11 183 RX9 yX9_likingOf (wA yX9_likingOf cX9_likingOf 3 (some .int))) := gA4 wm_X11_183 wi_X9_likingOf wl_X9_X9_likingOf wz_X9 wc_X9_likingOf
theorem gv_X11_187 : GoodIn lwG (wsV RX11 187 RX11 yX11_checkMatch (wA yX11_checkMatch cX11_checkMatch 2 none)) := gA4 wm_X11_187 wi_X11_checkMatch wl_X11_X11_checkMatch wz_X11 wc_X11_checkMatch
theorem gv_X11_190 : GoodIn lwG (wsV RX11 190 RX9 yX9_firstOf (wA yX9_firstOf cX9_firstOf 2 (some .int))) := gA4 wm_X11_190 wi_X9_firstOf wl_X9_X9_firstOf wz_X9 wc_X9_firstOf
theorem gv_X11_193 : GoodIn lwG (wsV RX11 193 RX9 yX9_secondOf (wA yX9_secondOf cX9_secondOf 2 (some .int))) := gA4 wm_X11_193 wi_X9_secondOf wl_X9_X9_secondOf wz_X9 wc_X9_secondOf
theorem gv_X11_202 : GoodIn lwG (wsV RX11 202 RX9 yX9_isOver (wA yX9_isOver cX9_isOver 2 (some .boolean))) := gA4 wm_X11_202 wi_X9_isOver wl_X9_X9_isOver wz_X9 wc_X9_isOver
theorem gv_X11_205 : GoodIn lwG (wsV RX11 205 RX9 yX9_insurersOf (wA yX9_insurersOf cX9_insurersOf 2 (some .int))) := gA4 wm_X11_205 wi_X9_insurersOf wl_X9_X9_insurersOf wz_X9 wc_X9_insurersOf
theorem gv_X11_208 : GoodIn lwG (wsV RX11 208 RX0 yX0_turnsNow (wA yX0_turnsNow cX0_turnsNow 4 (some .int))) := gA4 wm_X11_208 wi_X0_turnsNow wl_X0_X0_turnsNow wz_X0 wc_X0_turnsNow
theorem gv_X11_214 : GoodIn lwG (wsV RX11 214 RX11 yX11_remember (wA yX11_remember cX11_remember 2 none)) := gA4 wm_X11_214 wi_X11_remember wl_X11_X11_remember wz_X11 wc_X11_remember
theorem gv_X11_217 : GoodIn lwG (wsV RX11 217 RX9 yX9_addAsked (wA yX9_addAsked cX9_addAsked 4 (some .boolean))) := gA4 wm_X11_217 wi_X9_addAsked wl_X9_X9_addAsked wz_X9 wc_X9_addAsked
theorem gv_X11_221 : GoodIn lwG (wsV RX11 221 RX9 yX9_isWed (wA yX9_isWed cX9_isWed 2 (some .boolean))) := gA4 wm_X11_221 wi_X9_isWed wl_X9_X9_isWed wz_X9 wc_X9_isWed
theorem gv_X11_234 : GoodIn lwG (wsV RX11 234 RX9 yX9_addMatch (wA yX9_addMatch cX9_addMatch 5 (some .int))) := gA4 wm_X11_234 wi_X9_addMatch wl_X9_X9_addMatch wz_X9 wc_X9_addMatch
theorem gv_X11_238 : GoodIn lwG (wsV RX11 238 RX11 yX11_checkInsurer (wA yX11_checkInsurer cX11_checkInsurer 3 none)) := gA4 wm_X11_238 wi_X11_checkInsurer wl_X11_X11_checkInsurer wz_X11 wc_X11_checkInsurer
theorem gv_X11_243 : GoodIn lwG (wsV RX11 243 RX9 yX9_changeHappy (wA yX9_changeHappy cX9_changeHappy 3 (some .int))) := gA4 wm_X11_243 wi_X9_changeHappy wl_X9_X9_changeHappy wz_X9 wc_X9_changeHappy
theorem gv_X11_246 : GoodIn lwG (wsV RX11 246 RX11 yX11_checkGoesOn (wA yX11_checkGoesOn cX11_checkGoesOn 2 none)) := gA4 wm_X11_246 wi_X11_checkGoesOn wl_X11_X11_checkGoesOn wz_X11 wc_X11_checkGoesOn
theorem gv_X11_249 : GoodIn lwG (wsV RX11 249 RX9 yX9_endMatch (wA yX9_endMatch cX9_endMatch 2 none)) := gA4 wm_X11_249 wi_X9_endMatch wl_X9_X9_endMatch wz_X9 wc_X9_endMatch
theorem gv_X11_252 : GoodIn lwG (wsV RX11 252 RX11 yX11_checkNumber (wA yX11_checkNumber cX11_checkNumber 4 none)) := gA4 wm_X11_252 wi_X11_checkNumber wl_X11_X11_checkNumber wz_X11 wc_X11_checkNumber
theorem gv_X11_259 : GoodIn lwG (wsV RX11 259 RX9 yX9_passMonth (wA yX9_passMonth cX9_passMonth 4 none)) := gA4 wm_X11_259 wi_X9_passMonth wl_X9_X9_passMonth wz_X9 wc_X9_passMonth
theorem gv_X11_263 : GoodIn lwG (wsV RX11 263 RX9 yX9_insurersOfPair (wA yX9_insurersOfPair cX9_insurersOfPair 6 (some .int))) := gA4 wm_X11_263 wi_X9_insurersOfPair wl_X9_X9_insurersOfPair wz_X9 wc_X9_insurersOfPair
theorem gv_X11_266 : GoodIn lwG (wsV RX11 266 RX5 yX5_bestFor (wA yX5_bestFor cX5_bestFor 5 (some .int))) := gA4 wm_X11_266 wi_X5_bestFor wl_X5_X5_bestFor wz_X5 wc_X5_bestFor
theorem gv_X11_270 : GoodIn lwG (wsV RX11 270 RX11 yX11_checkQuarrel (wA yX11_checkQuarrel cX11_checkQuarrel 2 none)) := gA4 wm_X11_270 wi_X11_checkQuarrel wl_X11_X11_checkQuarrel wz_X11 wc_X11_checkQuarrel
theorem gv_X11_273 : GoodIn lwG (wsV RX11 273 RX0 yX0_happyNext (wA yX0_happyNext cX0_happyNext 5 (some .int))) := gA4 wm_X11_273 wi_X0_happyNext wl_X0_X0_happyNext wz_X0 wc_X0_happyNext
theorem gv_X11_277 : GoodIn lwG (wsV RX11 277 RX0 yX0_happyAhead (wA yX0_happyAhead cX0_happyAhead 7 (some .int))) := gA4 wm_X11_277 wi_X0_happyAhead wl_X0_X0_happyAhead wz_X0 wc_X0_happyAhead
theorem gv_X11_281 : GoodIn lwG (wsV RX11 281 RX0 yX0_firstClaim (wA yX0_firstClaim cX0_firstClaim 6 (some .int))) := gA4 wm_X11_281 wi_X0_firstClaim wl_X0_X0_firstClaim wz_X0 wc_X0_firstClaim
theorem gv_X11_284 : GoodIn lwG (wsV RX11 284 RX0 yX0_claimQuarrels (wA yX0_claimQuarrels cX0_claimQuarrels 6 (some .int))) := gA4 wm_X11_284 wi_X0_claimQuarrels wl_X0_X0_claimQuarrels wz_X0 wc_X0_claimQuarrels
theorem gv_X11_287 : GoodIn lwG (wsV RX11 287 RX0 yX0_fewestGifts (wA yX0_fewestGifts cX0_fewestGifts 8 (some .int))) := gA4 wm_X11_287 wi_X0_fewestGifts wl_X0_X0_fewestGifts wz_X0 wc_X0_fewestGifts
theorem gv_X11_290 : GoodIn lwG (wsV RX11 290 RX0 yX0_fallen (wA yX0_fallen cX0_fallen 2 (some .int))) := gA4 wm_X11_290 wi_X0_fallen wl_X0_X0_fallen wz_X0 wc_X0_fallen
theorem gv_X11_294 : GoodIn lwG (wsV RX11 294 RX0 yX0_lossOf (wA yX0_lossOf cX0_lossOf 3 (some .int))) := gA4 wm_X11_294 wi_X0_lossOf wl_X0_X0_lossOf wz_X0 wc_X0_lossOf
theorem gv_X11_297 : GoodIn lwG (wsV RX11 297 RX0 yX0_leastWealth (wA yX0_leastWealth cX0_leastWealth 7 (some .int))) := gA4 wm_X11_297 wi_X0_leastWealth wl_X0_X0_leastWealth wz_X0 wc_X0_leastWealth
theorem gv_X11_300 : GoodIn lwG (wsV RX11 300 RX9 yX9_ringSteps (wA yX9_ringSteps cX9_ringSteps 4 (some .int))) := gA4 wm_X11_300 wi_X9_ringSteps wl_X9_X9_ringSteps wz_X9 wc_X9_ringSteps
theorem gv_X11_303 : GoodIn lwG (wsV RX11 303 RX9 yX9_ringCount (wA yX9_ringCount cX9_ringCount 3 (some .int))) := gA4 wm_X11_303 wi_X9_ringCount wl_X9_X9_ringCount wz_X9 wc_X9_ringCount
theorem gv_X11_306 : GoodIn lwG (wsV RX11 306 RX9 yX9_leaners (wA yX9_leaners cX9_leaners 4 (some .int))) := gA4 wm_X11_306 wi_X9_leaners wl_X9_X9_leaners wz_X9 wc_X9_leaners
theorem gv_X11_309 : GoodIn lwG (wsV RX11 309 RX5 yX5_preferred (wA yX5_preferred cX5_preferred 7 (some .int))) := gA4 wm_X11_309 wi_X5_preferred wl_X5_X5_preferred wz_X5 wc_X5_preferred
theorem gv_X11_312 : GoodIn lwG (wsV RX11 312 RX5 yX5_firstLovers (wA yX5_firstLovers cX5_firstLovers 4 (some .int))) := gA4 wm_X11_312 wi_X5_firstLovers wl_X5_X5_firstLovers wz_X5 wc_X5_firstLovers
theorem gv_X11_315 : GoodIn lwG (wsV RX11 315 RX5 yX5_loverPairs (wA yX5_loverPairs cX5_loverPairs 5 (some .int))) := gA4 wm_X11_315 wi_X5_loverPairs wl_X5_X5_loverPairs wz_X5 wc_X5_loverPairs
theorem gv_X11_318 : GoodIn lwG (wsV RX11 318 RX5 yX5_steadyWays (wA yX5_steadyWays cX5_steadyWays 2 (some .int))) := gA4 wm_X11_318 wi_X5_steadyWays wl_X5_X5_steadyWays wz_X5 wc_X5_steadyWays
theorem gv_X11_321 : GoodIn lwG (wsV RX11 321 RX5 yX5_steadyPartner (wA yX5_steadyPartner cX5_steadyPartner 3 (some .int))) := gA4 wm_X11_321 wi_X5_steadyPartner wl_X5_X5_steadyPartner wz_X5 wc_X5_steadyPartner
theorem gv_X11_324 : GoodIn lwG (wsV RX11 324 RX5 yX5_mostWeddings (wA yX5_mostWeddings cX5_mostWeddings 4 (some .int))) := gA4 wm_X11_324 wi_X5_mostWeddings wl_X5_X5_mostWeddings wz_X5 wc_X5_mostWeddings
theorem gv_X11_327 : GoodIn lwG (wsV RX11 327 RX11 yX11_readTold (wA yX11_readTold cX11_readTold 1 none)) := gA4 wm_X11_327 wi_X11_readTold wl_X11_X11_readTold wz_X11 wc_X11_readTold
theorem gv_X11_330 : GoodIn lwG (wsV RX11 330 RX8 yX8_inAll (wA yX8_inAll cX8_inAll 4 (some .int))) := gA4 wm_X11_330 wi_X8_inAll wl_X8_X8_inAll wz_X8 wc_X8_inAll
theorem gv_X11_333 : GoodIn lwG (wsV RX11 333 RX8 yX8_fitting (wA yX8_fitting cX8_fitting 3 (some .int))) := gA4 wm_X11_333 wi_X8_fitting wl_X8_X8_fitting wz_X8 wc_X8_fitting
theorem gv_X11_336 : GoodIn lwG (wsV RX11 336 RX8 yX8_bestParter (wA yX8_bestParter cX8_bestParter 7 (some .int))) := gA4 wm_X11_336 wi_X8_bestParter wl_X8_X8_bestParter wz_X8 wc_X8_bestParter
theorem gv_X11_342 : GoodIn lwG (wsV RX11 342 RX8 yX8_reads (wA yX8_reads cX8_reads 7 (some .boolean))) := gA4 wm_X11_342 wi_X8_reads wl_X8_X8_reads wz_X8 wc_X8_reads
theorem gv_X11_348 : GoodIn lwG (wsV RX11 348 RX9 yX9_richestPerson (wA yX9_richestPerson cX9_richestPerson 3 (some .int))) := gA4 wm_X11_348 wi_X9_richestPerson wl_X9_X9_richestPerson wz_X9 wc_X9_richestPerson
theorem gv_X11_354 : GoodIn lwG (wsV RX11 354 RX0 yX0_tryMonths (wA yX0_tryMonths cX0_tryMonths 6 (some .int))) := gA4 wm_X11_354 wi_X0_tryMonths wl_X0_X0_tryMonths wz_X0 wc_X0_tryMonths
theorem gv_X11_357 : GoodIn lwG (wsV RX11 357 RX0 yX0_ruinedInTrial (wA yX0_ruinedInTrial cX0_ruinedInTrial 1 (some .int))) := gA4 wm_X11_357 wi_X0_ruinedInTrial wl_X0_X0_ruinedInTrial wz_X0 wc_X0_ruinedInTrial
theorem gv_X11_368 : GoodIn lwG (wsV RX11 368 RX9 yX9_loggedPaid (wA yX9_loggedPaid cX9_loggedPaid 4 (some .int))) := gA4 wm_X11_368 wi_X9_loggedPaid wl_X9_X9_loggedPaid wz_X9 wc_X9_loggedPaid
theorem gv_X11_371 : GoodIn lwG (wsV RX11 371 RX9 yX9_loggedClaims (wA yX9_loggedClaims cX9_loggedClaims 4 (some .int))) := gA4 wm_X11_371 wi_X9_loggedClaims wl_X9_X9_loggedClaims wz_X9 wc_X9_loggedClaims
theorem gv_X11_376 : GoodIn lwG (wsV RX11 376 RX9 yX9_logRows (wA yX9_logRows cX9_logRows 1 (some .int))) := gA4 wm_X11_376 wi_X9_logRows wl_X9_X9_logRows wz_X9 wc_X9_logRows
theorem gv_X11_379 : GoodIn lwG (wsV RX11 379 RX9 yX9_logged (wA yX9_logged cX9_logged 3 (some .int))) := gA4 wm_X11_379 wi_X9_logged wl_X9_X9_logged wz_X9 wc_X9_logged
theorem gv_X11_388 : GoodIn lwG (wsV RX11 388 RX11 yX11_rememberedTown (wA yX11_rememberedTown cX11_rememberedTown 3 (some (.object "RivalWeds$Town")))) := gA4 wm_X11_388 wi_X11_rememberedTown wl_X11_X11_rememberedTown wz_X11 wc_X11_rememberedTown
theorem gv_X11_414 : GoodIn lwG (wsV RX11 414 RX9 yX9_wealthOfAll (wA yX9_wealthOfAll cX9_wealthOfAll 3 (some .int))) := gA4 wm_X11_414 wi_X9_wealthOfAll wl_X9_X9_wealthOfAll wz_X9 wc_X9_wealthOfAll
theorem gv_X11_420 : GoodIn lwG (wsV RX11 420 RX9 yX9_wedPeople (wA yX9_wedPeople cX9_wedPeople 3 (some .int))) := gA4 wm_X11_420 wi_X9_wedPeople wl_X9_X9_wedPeople wz_X9 wc_X9_wedPeople
theorem gv_X11_423 : GoodIn lwG (wsV RX11 423 RX9 yX9_hasPerson (wA yX9_hasPerson cX9_hasPerson 2 (some .boolean))) := gA4 wm_X11_423 wi_X9_hasPerson wl_X9_X9_hasPerson wz_X9 wc_X9_hasPerson
theorem gv_X11_91 : GoodIn lwG (wsV RX11 91 RX11 yX11_feedNumber (wA yX11_feedNumber cX11_feedNumber 3 none)) := gA4 wm_X11_91 wi_X11_feedNumber wl_X11_X11_feedNumber wz_X11 wc_X11_feedNumber
theorem gv_X11_94 : GoodIn lwG (wsV RX11 94 RX6 yX6_put (wA yX6_put cX6_put 3 none)) := gA4 wm_X11_94 wi_X6_put wl_X6_X6_put wz_X6 wc_X6_put
theorem gv_X12_100 : GoodIn lwG (wsV RX12 100 RJ0 yJ0_charAt_5068e (wA yJ0_charAt_5068e cJ0_charAt_5068e 2 (some .char))) := gA4 wm_X12_100 wi_J0_charAt_5068e wl_J0_J0_charAt_5068e wz_J0 wc_J0_charAt_5068e
theorem gv_X12_104 : GoodIn lwG (wsV RX12 104 RX12 yX12_place (wA yX12_place cX12_place 1 (some .int))) := gA4 wm_X12_104 wi_X12_place wl_X12_X12_place wz_X12 wc_X12_place
theorem gv_X12_107 : GoodIn lwG (wsV RX12 107 RX12 yX12_wrong (wA yX12_wrong cX12_wrong 2 none)) := gA4 wm_X12_107 wi_X12_wrong wl_X12_X12_wrong wz_X12 wc_X12_wrong
theorem gv_X12_111 : GoodIn lwG (wsV RX12 111 RX12 yX12_says (wA yX12_says cX12_says 4 (some .boolean))) := gA4 wm_X12_111 wi_X12_says wl_X12_X12_says wz_X12 wc_X12_says
theorem gv_X12_115 : GoodIn lwG (wsV RX12 115 RX12 yX12_figures (wA yX12_figures cX12_figures 5 (some .int))) := gA4 wm_X12_115 wi_X12_figures wl_X12_X12_figures wz_X12 wc_X12_figures
theorem gv_X12_118 : GoodIn lwG (wsV RX12 118 RX12 yX12_who (wA yX12_who cX12_who 1 (some .int))) := gA4 wm_X12_118 wi_X12_who wl_X12_X12_who wz_X12 wc_X12_who
theorem gv_X12_121 : GoodIn lwG (wsV RX12 121 RX12 yX12_wedTo (wA yX12_wedTo cX12_wedTo 3 (some .int))) := gA4 wm_X12_121 wi_X12_wedTo wl_X12_X12_wedTo wz_X12 wc_X12_wedTo
theorem gv_X12_124 : GoodIn lwG (wsV RX12 124 RX12 yX12_free (wA yX12_free cX12_free 3 none)) := gA4 wm_X12_124 wi_X12_free wl_X12_X12_free wz_X12 wc_X12_free
theorem gv_X12_128 : GoodIn lwG (wsV RX12 128 RX12 yX12_other (wA yX12_other cX12_other 4 (some .int))) := gA4 wm_X12_128 wi_X12_other wl_X12_X12_other wz_X12 wc_X12_other
theorem gv_X12_133 : GoodIn lwG (wsV RX12 133 RX12 yX12_after (wA yX12_after cX12_after 4 (some .int))) := gA4 wm_X12_133 wi_X12_after wl_X12_X12_after wz_X12 wc_X12_after
theorem gv_X12_137 : GoodIn lwG (wsV RX12 137 RX12 yX12_comes (wA yX12_comes cX12_comes 5 none)) := gA4 wm_X12_137 wi_X12_comes wl_X12_X12_comes wz_X12 wc_X12_comes
theorem gv_X12_141 : GoodIn lwG (wsV RX12 141 RX12 yX12_told (wA yX12_told cX12_told 4 none)) := gA4 wm_X12_141 wi_X12_told wl_X12_X12_told wz_X12 wc_X12_told
theorem gv_X12_144 : GoodIn lwG (wsV RX12 144 RX12 yX12_has (wA yX12_has cX12_has 4 none)) := gA4 wm_X12_144 wi_X12_has wl_X12_X12_has wz_X12 wc_X12_has
theorem gv_X12_149 : GoodIn lwG (wsV RX12 149 RX12 yX12_personLine (wA yX12_personLine cX12_personLine 5 none)) := gA4 wm_X12_149 wi_X12_personLine wl_X12_X12_personLine wz_X12 wc_X12_personLine
theorem gv_X12_154 : GoodIn lwG (wsV RX12 154 RX12 yX12_likings (wA yX12_likings cX12_likings 5 none)) := gA4 wm_X12_154 wi_X12_likings wl_X12_X12_likings wz_X12 wc_X12_likings
theorem gv_X12_163 : GoodIn lwG (wsV RX12 163 RX12 yX12_wedLine (wA yX12_wedLine cX12_wedLine 6 none)) := gA4 wm_X12_163 wi_X12_wedLine wl_X12_X12_wedLine wz_X12 wc_X12_wedLine
theorem gv_X12_168 : GoodIn lwG (wsV RX12 168 RX12 yX12_tells (wA yX12_tells cX12_tells 4 none)) := gA4 wm_X12_168 wi_X12_tells wl_X12_X12_tells wz_X12 wc_X12_tells
theorem gv_X12_178 : GoodIn lwG (wsV RX12 178 RX12 yX12_lawLine (wA yX12_lawLine cX12_lawLine 4 none)) := gA4 wm_X12_178 wi_X12_lawLine wl_X12_X12_lawLine wz_X12 wc_X12_lawLine
theorem gv_X12_181 : GoodIn lwG (wsV RX12 181 RX12 yX12_townLine (wA yX12_townLine cX12_townLine 4 none)) := gA4 wm_X12_181 wi_X12_townLine wl_X12_X12_townLine wz_X12 wc_X12_townLine
theorem gv_X12_184 : GoodIn lwG (wsV RX12 184 RX12 yX12_isSign (wA yX12_isSign cX12_isSign 2 (some .boolean))) := gA4 wm_X12_184 wi_X12_isSign wl_X12_X12_isSign wz_X12 wc_X12_isSign
theorem gv_X12_188 : GoodIn lwG (wsV RX12 188 RX12 yX12_putsAside (wA yX12_putsAside cX12_putsAside 2 none)) := gA4 wm_X12_188 wi_X12_putsAside wl_X12_X12_putsAside wz_X12 wc_X12_putsAside
theorem gv_X12_191 : GoodIn lwG (wsV RX12 191 RX12 yX12_begins (wA yX12_begins cX12_begins 1 none)) := gA4 wm_X12_191 wi_X12_begins wl_X12_X12_begins wz_X12 wc_X12_begins
theorem gv_X12_194 : GoodIn lwG (wsV RX12 194 RX12 yX12_read (wA yX12_read cX12_read 4 (some .int))) := gA4 wm_X12_194 wi_X12_read wl_X12_X12_read wz_X12 wc_X12_read
theorem gv_X12_198 : GoodIn lwG (wsV RX12 198 RX12 yX12_comesBack (wA yX12_comesBack cX12_comesBack 2 none)) := gA4 wm_X12_198 wi_X12_comesBack wl_X12_X12_comesBack wz_X12 wc_X12_comesBack
theorem gv_X12_214 : GoodIn lwG (wsV RX12 214 RX12 yX12_part (wA yX12_part cX12_part 2 (some .int))) := gA4 wm_X12_214 wi_X12_part wl_X12_X12_part wz_X12 wc_X12_part
theorem gv_X12_225 : GoodIn lwG (wsV RX12 225 RX12 yX12_sum (wA yX12_sum cX12_sum 2 (some .int))) := gA4 wm_X12_225 wi_X12_sum wl_X12_X12_sum wz_X12 wc_X12_sum
theorem gv_X12_230 : GoodIn lwG (wsV RX12 230 RX12 yX12_plain (wA yX12_plain cX12_plain 4 (some .boolean))) := gA4 wm_X12_230 wi_X12_plain wl_X12_X12_plain wz_X12 wc_X12_plain
theorem gv_X12_234 : GoodIn lwG (wsV RX12 234 RX12 yX12_atom (wA yX12_atom cX12_atom 4 (some .boolean))) := gA4 wm_X12_234 wi_X12_atom wl_X12_X12_atom wz_X12 wc_X12_atom
theorem gv_X12_237 : GoodIn lwG (wsV RX12 237 RX12 yX12_some (wA yX12_some cX12_some 3 (some .boolean))) := gA4 wm_X12_237 wi_X12_some wl_X12_X12_some wz_X12 wc_X12_some
theorem gv_X12_242 : GoodIn lwG (wsV RX12 242 RX12 yX12_every (wA yX12_every cX12_every 3 (some .boolean))) := gA4 wm_X12_242 wi_X12_every wl_X12_X12_every wz_X12 wc_X12_every
theorem gv_X12_256 : GoodIn lwG (wsV RX12 256 RX12 yX12_insurers (wA yX12_insurers cX12_insurers 2 (some .int))) := gA4 wm_X12_256 wi_X12_insurers wl_X12_X12_insurers wz_X12 wc_X12_insurers
theorem gv_X12_258 : GoodIn lwG (wsV RX12 258 RX12 yX12_likes (wA yX12_likes cX12_likes 3 (some .int))) := gA4 wm_X12_258 wi_X12_likes wl_X12_X12_likes wz_X12 wc_X12_likes
theorem gv_X12_260 : GoodIn lwG (wsV RX12 260 RX12 yX12_turnsBy (wA yX12_turnsBy cX12_turnsBy 7 (some .int))) := gA4 wm_X12_260 wi_X12_turnsBy wl_X12_X12_turnsBy wz_X12 wc_X12_turnsBy
theorem gv_X12_269 : GoodIn lwG (wsV RX12 269 RX12 yX12_gives (wA yX12_gives cX12_gives 4 (some .int))) := gA4 wm_X12_269 wi_X12_gives wl_X12_X12_gives wz_X12 wc_X12_gives
theorem gv_X12_272 : GoodIn lwG (wsV RX12 272 RX12 yX12_gets (wA yX12_gets cX12_gets 3 none)) := gA4 wm_X12_272 wi_X12_gets wl_X12_X12_gets wz_X12 wc_X12_gets
theorem gv_X12_275 : GoodIn lwG (wsV RX12 275 RX12 yX12_pays (wA yX12_pays cX12_pays 4 (some .int))) := gA4 wm_X12_275 wi_X12_pays wl_X12_X12_pays wz_X12 wc_X12_pays
theorem gv_X12_278 : GoodIn lwG (wsV RX12 278 RX12 yX12_draw (wA yX12_draw cX12_draw 2 (some .int))) := gA4 wm_X12_278 wi_X12_draw wl_X12_X12_draw wz_X12 wc_X12_draw
theorem gv_X12_281 : GoodIn lwG (wsV RX12 281 RX12 yX12_premiums (wA yX12_premiums cX12_premiums 8 none)) := gA4 wm_X12_281 wi_X12_premiums wl_X12_X12_premiums wz_X12 wc_X12_premiums
theorem gv_X12_284 : GoodIn lwG (wsV RX12 284 RX12 yX12_nextOf (wA yX12_nextOf cX12_nextOf 3 (some .int))) := gA4 wm_X12_284 wi_X12_nextOf wl_X12_X12_nextOf wz_X12 wc_X12_nextOf
theorem gv_X12_287 : GoodIn lwG (wsV RX12 287 RX12 yX12_claims (wA yX12_claims cX12_claims 5 (some .int))) := gA4 wm_X12_287 wi_X12_claims wl_X12_X12_claims wz_X12 wc_X12_claims
theorem gv_X12_290 : GoodIn lwG (wsV RX12 290 RX12 yX12_logs (wA yX12_logs cX12_logs 5 none)) := gA4 wm_X12_290 wi_X12_logs wl_X12_X12_logs wz_X12 wc_X12_logs
theorem gv_X12_293 : GoodIn lwG (wsV RX12 293 RX12 yX12_isPerson (wA yX12_isPerson cX12_isPerson 2 (some .boolean))) := gA4 wm_X12_293 wi_X12_isPerson wl_X12_X12_isPerson wz_X12 wc_X12_isPerson
theorem gv_X12_296 : GoodIn lwG (wsV RX12 296 RX12 yX12_askersOf (wA yX12_askersOf cX12_askersOf 4 (some .int))) := gA4 wm_X12_296 wi_X12_askersOf wl_X12_X12_askersOf wz_X12 wc_X12_askersOf
theorem gv_X12_299 : GoodIn lwG (wsV RX12 299 RX12 yX12_wealths (wA yX12_wealths cX12_wealths 3 (some .int))) := gA4 wm_X12_299 wi_X12_wealths wl_X12_X12_wealths wz_X12 wc_X12_wealths
theorem gv_X12_302 : GoodIn lwG (wsV RX12 302 RX12 yX12_two (wA yX12_two cX12_two 3 (some .int))) := gA4 wm_X12_302 wi_X12_two wl_X12_X12_two wz_X12 wc_X12_two
theorem gv_X12_305 : GoodIn lwG (wsV RX12 305 RX12 yX12_isMatch (wA yX12_isMatch cX12_isMatch 2 (some .boolean))) := gA4 wm_X12_305 wi_X12_isMatch wl_X12_X12_isMatch wz_X12 wc_X12_isMatch
theorem gv_X12_308 : GoodIn lwG (wsV RX12 308 RX12 yX12_remembers (wA yX12_remembers cX12_remembers 2 none)) := gA4 wm_X12_308 wi_X12_remembers wl_X12_X12_remembers wz_X12 wc_X12_remembers
theorem gv_X12_311 : GoodIn lwG (wsV RX12 311 RX12 yX12_insures (wA yX12_insures cX12_insures 3 (some .boolean))) := gA4 wm_X12_311 wi_X12_insures wl_X12_X12_insures wz_X12 wc_X12_insures
theorem gv_X12_314 : GoodIn lwG (wsV RX12 314 RX12 yX12_goes (wA yX12_goes cX12_goes 6 (some .int))) := gA4 wm_X12_314 wi_X12_goes wl_X12_X12_goes wz_X12 wc_X12_goes
theorem gv_X12_317 : GoodIn lwG (wsV RX12 317 RX12 yX12_badMatch (wA yX12_badMatch cX12_badMatch 5 (some .int))) := gA4 wm_X12_317 wi_X12_badMatch wl_X12_X12_badMatch wz_X12 wc_X12_badMatch
theorem gv_X12_321 : GoodIn lwG (wsV RX12 321 RX12 yX12_passes (wA yX12_passes cX12_passes 3 none)) := gA4 wm_X12_321 wi_X12_passes wl_X12_X12_passes wz_X12 wc_X12_passes
theorem gv_X12_324 : GoodIn lwG (wsV RX12 324 RX12 yX12_fallsNow (wA yX12_fallsNow cX12_fallsNow 3 (some .int))) := gA4 wm_X12_324 wi_X12_fallsNow wl_X12_X12_fallsNow wz_X12 wc_X12_fallsNow
theorem gv_X12_327 : GoodIn lwG (wsV RX12 327 RX12 yX12_ringOf (wA yX12_ringOf cX12_ringOf 4 (some .int))) := gA4 wm_X12_327 wi_X12_ringOf wl_X12_X12_ringOf wz_X12 wc_X12_ringOf
theorem gv_X12_330 : GoodIn lwG (wsV RX12 330 RX12 yX12_leads (wA yX12_leads cX12_leads 5 (some .boolean))) := gA4 wm_X12_330 wi_X12_leads wl_X12_X12_leads wz_X12 wc_X12_leads
theorem gv_X12_333 : GoodIn lwG (wsV RX12 333 RX12 yX12_by (wA yX12_by cX12_by 4 none)) := gA4 wm_X12_333 wi_X12_by wl_X12_X12_by wz_X12 wc_X12_by
theorem gv_X12_335 : GoodIn lwG (wsV RX12 335 RX12 yX12_fewest (wA yX12_fewest cX12_fewest 6 (some .int))) := gA4 wm_X12_335 wi_X12_fewest wl_X12_X12_fewest wz_X12 wc_X12_fewest
theorem gv_X12_338 : GoodIn lwG (wsV RX12 338 RX12 yX12_ofAside (wA yX12_ofAside cX12_ofAside 2 (some .int))) := gA4 wm_X12_338 wi_X12_ofAside wl_X12_X12_ofAside wz_X12 wc_X12_ofAside
theorem gv_X12_342 : GoodIn lwG (wsV RX12 342 RX12 yX12_ratherOf (wA yX12_ratherOf cX12_ratherOf 5 (some .int))) := gA4 wm_X12_342 wi_X12_ratherOf wl_X12_X12_ratherOf wz_X12 wc_X12_ratherOf
theorem gv_X12_345 : GoodIn lwG (wsV RX12 345 RX12 yX12_prefers (wA yX12_prefers cX12_prefers 3 (some .boolean))) := gA4 wm_X12_345 wi_X12_prefers wl_X12_X12_prefers wz_X12 wc_X12_prefers
theorem gv_X12_348 : GoodIn lwG (wsV RX12 348 RX12 yX12_isSteady (wA yX12_isSteady cX12_isSteady 3 (some .boolean))) := gA4 wm_X12_348 wi_X12_isSteady wl_X12_X12_isSteady wz_X12 wc_X12_isSteady
theorem gv_X12_354 : GoodIn lwG (wsV RX12 354 RX12 yX12_pairsUp (wA yX12_pairsUp cX12_pairsUp 4 none)) := gA4 wm_X12_354 wi_X12_pairsUp wl_X12_X12_pairsUp wz_X12 wc_X12_pairsUp
theorem gv_X12_358 : GoodIn lwG (wsV RX12 358 RX12 yX12_mayWed (wA yX12_mayWed cX12_mayWed 3 (some .boolean))) := gA4 wm_X12_358 wi_X12_mayWed wl_X12_X12_mayWed wz_X12 wc_X12_mayWed
theorem gv_X12_361 : GoodIn lwG (wsV RX12 361 RX12 yX12_told_ (wA yX12_told_ cX12_told_ 8 (some .int))) := gA4 wm_X12_361 wi_X12_told_ wl_X12_X12_told_ wz_X12 wc_X12_told_
theorem gv_X12_363 : GoodIn lwG (wsV RX12 363 RX12 yX12_with (wA yX12_with cX12_with 4 (some .int))) := gA4 wm_X12_363 wi_X12_with wl_X12_X12_with wz_X12 wc_X12_with
theorem gv_X12_366 : GoodIn lwG (wsV RX12 366 RX12 yX12_ruinedOnes (wA yX12_ruinedOnes cX12_ruinedOnes 3 (some .int))) := gA4 wm_X12_366 wi_X12_ruinedOnes wl_X12_X12_ruinedOnes wz_X12 wc_X12_ruinedOnes
theorem gv_X12_369 : GoodIn lwG (wsV RX12 369 RX12 yX12_logged (wA yX12_logged cX12_logged 3 (some .int))) := gA4 wm_X12_369 wi_X12_logged wl_X12_X12_logged wz_X12 wc_X12_logged
theorem gv_X12_375 : GoodIn lwG (wsV RX12 375 RX12 yX12_wedOnes (wA yX12_wedOnes cX12_wedOnes 3 (some .int))) := gA4 wm_X12_375 wi_X12_wedOnes wl_X12_X12_wedOnes wz_X12 wc_X12_wedOnes
theorem gv_X12_58 : GoodIn lwG (wsV RX12 58 RX12 yX12_ofMatch (wA yX12_ofMatch cX12_ofMatch 3 (some .int))) := gA4 wm_X12_58 wi_X12_ofMatch wl_X12_X12_ofMatch wz_X12 wc_X12_ofMatch
theorem gv_X12_62 : GoodIn lwG (wsV RX12 62 RX12 yX12_of (wA yX12_of cX12_of 3 (some .int))) := gA4 wm_X12_62 wi_X12_of wl_X12_X12_of wz_X12 wc_X12_of
theorem gv_X12_73 : GoodIn lwG (wsV RX12 73 RX12 yX12_insurersOf (wA yX12_insurersOf cX12_insurersOf 5 (some .int))) := gA4 wm_X12_73 wi_X12_insurersOf wl_X12_X12_insurersOf wz_X12 wc_X12_insurersOf
theorem gv_X12_88 : GoodIn lwG (wsV RX12 88 RX12 yX12_letter (wA yX12_letter cX12_letter 2 (some .int))) := gA4 wm_X12_88 wi_X12_letter wl_X12_X12_letter wz_X12 wc_X12_letter
theorem gv_X12_91 : GoodIn lwG (wsV RX12 91 RX12 yX12_skip (wA yX12_skip cX12_skip 1 none)) := gA4 wm_X12_91 wi_X12_skip wl_X12_X12_skip wz_X12 wc_X12_skip
theorem gv_X12_94 : GoodIn lwG (wsV RX12 94 RJ0 yJ0_length_8abf5 (wA yJ0_length_8abf5 cJ0_length_8abf5 1 (some .int))) := gA4 wm_X12_94 wi_J0_length_8abf5 wl_J0_J0_length_8abf5 wz_J0 wc_J0_length_8abf5
theorem gv_X1_129 : GoodIn lwG (wsV RX1 129 RX1 yX1_isSpelt (wA yX1_isSpelt cX1_isSpelt 5 (some .boolean))) := gA4 wm_X1_129 wi_X1_isSpelt wl_X1_X1_isSpelt wz_X1 wc_X1_isSpelt
theorem gv_X1_133 : GoodIn lwG (wsV RX1 133 RJ0 yJ0_length_8abf5 (wA yJ0_length_8abf5 cJ0_length_8abf5 1 (some .int))) := gA4 wm_X1_133 wi_J0_length_8abf5 wl_J0_J0_length_8abf5 wz_J0 wc_J0_length_8abf5
theorem gv_X1_139 : GoodIn lwG (wsV RX1 139 RJ0 yJ0_charAt_5068e (wA yJ0_charAt_5068e cJ0_charAt_5068e 2 (some .char))) := gA4 wm_X1_139 wi_J0_charAt_5068e wl_J0_J0_charAt_5068e wz_J0 wc_J0_charAt_5068e
theorem gv_X1_143 : GoodIn lwG (wsV RX1 143 RX6 yX6_at (wA yX6_at cX6_at 2 (some .int))) := gA4 wm_X1_143 wi_X6_at wl_X6_X6_at wz_X6 wc_X6_at
theorem gv_X2_37 : GoodIn lwG (wsV RX2 37 RX6 yX6_put (wA yX6_put cX6_put 3 none)) := gA4 wm_X2_37 wi_X6_put wl_X6_X6_put wz_X6 wc_X6_put
theorem gv_X2_41 : GoodIn lwG (wsV RX2 41 RX6 yX6_copyAll (wA yX6_copyAll cX6_copyAll 2 none)) := gA4 wm_X2_41 wi_X6_copyAll wl_X6_X6_copyAll wz_X6 wc_X6_copyAll
theorem gv_X2_65 : GoodIn lwG (wsV RX2 65 RX6 yX6_at (wA yX6_at cX6_at 2 (some .int))) := gA4 wm_X2_65 wi_X6_at wl_X6_X6_at wz_X6 wc_X6_at
theorem gv_X2_69 : GoodIn lwG (wsV RX2 69 RX2 yX2_isMet (wA yX2_isMet cX2_isMet 7 (some .boolean))) := gA4 wm_X2_69 wi_X2_isMet wl_X2_X2_isMet wz_X2 wc_X2_isMet
theorem gv_X2_73 : GoodIn lwG (wsV RX2 73 RX4 yX4_valueOf (wA yX4_valueOf cX4_valueOf 2 (some .int))) := gA4 wm_X2_73 wi_X4_valueOf wl_X4_X4_valueOf wz_X4 wc_X4_valueOf
theorem gv_X3_48 : GoodIn lwG (wsV RX3 48 RX3 yX3_readsEither (wA yX3_readsEither cX3_readsEither 3 (some .boolean))) := gA4 wm_X3_48 wi_X3_readsEither wl_X3_X3_readsEither wz_X3 wc_X3_readsEither
theorem gv_X3_52 : GoodIn lwG (wsV RX3 52 RX2 yX2_addLine (wA yX2_addLine cX2_addLine 2 none)) := gA4 wm_X3_52 wi_X2_addLine wl_X2_X2_addLine wz_X2 wc_X2_addLine
theorem gv_X3_56 : GoodIn lwG (wsV RX3 56 RX3 yX3_readsAll (wA yX3_readsAll cX3_readsAll 3 (some .boolean))) := gA4 wm_X3_56 wi_X3_readsAll wl_X3_X3_readsAll wz_X3 wc_X3_readsAll
theorem gv_X3_62 : GoodIn lwG (wsV RX3 62 RX2 yX2_addCode (wA yX2_addCode cX2_addCode 2 none)) := gA4 wm_X3_62 wi_X2_addCode wl_X2_X2_addCode wz_X2 wc_X2_addCode
theorem gv_X3_65 : GoodIn lwG (wsV RX3 65 RX3 yX3_readsAtom (wA yX3_readsAtom cX3_readsAtom 4 (some .boolean))) := gA4 wm_X3_65 wi_X3_readsAtom wl_X3_X3_readsAtom wz_X3 wc_X3_readsAtom
theorem gv_X3_83 : GoodIn lwG (wsV RX3 83 RX3 yX3_readsNot (wA yX3_readsNot cX3_readsNot 3 (some .boolean))) := gA4 wm_X3_83 wi_X3_readsNot wl_X3_X3_readsNot wz_X3 wc_X3_readsNot
theorem gv_X3_96 : GoodIn lwG (wsV RX3 96 RX3 yX3_readsSum (wA yX3_readsSum cX3_readsSum 3 (some .boolean))) := gA4 wm_X3_96 wi_X3_readsSum wl_X3_X3_readsSum wz_X3 wc_X3_readsSum
theorem gv_X4_34 : GoodIn lwG (wsV RX4 34 RX2 yX2_turnsBy (wA yX2_turnsBy cX2_turnsBy 6 (some .int))) := gA4 wm_X4_34 wi_X2_turnsBy wl_X2_X2_turnsBy wz_X2 wc_X2_turnsBy
theorem gv_X4_44 : GoodIn lwG (wsV RX4 44 RX4 yX4_happyTurned (wA yX4_happyTurned cX4_happyTurned 2 (some .int))) := gA4 wm_X4_44 wi_X4_happyTurned wl_X4_X4_happyTurned wz_X4 wc_X4_happyTurned
theorem gv_X5_100 : GoodIn lwG (wsV RX5 100 RX5 yX5_wouldLeaveFor (wA yX5_wouldLeaveFor cX5_wouldLeaveFor 5 (some .boolean))) := gA4 wm_X5_100 wi_X5_wouldLeaveFor wl_X5_X5_wouldLeaveFor wz_X5 wc_X5_wouldLeaveFor
theorem gv_X5_103 : GoodIn lwG (wsV RX5 103 RX6 yX6_copyAll (wA yX6_copyAll cX6_copyAll 2 none)) := gA4 wm_X5_103 wi_X6_copyAll wl_X6_X6_copyAll wz_X6 wc_X6_copyAll
theorem gv_X5_114 : GoodIn lwG (wsV RX5 114 RX9 yX9_askersOf (wA yX9_askersOf cX9_askersOf 4 (some .int))) := gA4 wm_X5_114 wi_X9_askersOf wl_X9_X9_askersOf wz_X9 wc_X9_askersOf
theorem gv_X5_23 : GoodIn lwG (wsV RX5 23 RX9 yX9_isWed (wA yX9_isWed cX9_isWed 2 (some .boolean))) := gA4 wm_X5_23 wi_X9_isWed wl_X9_X9_isWed wz_X9 wc_X9_isWed
theorem gv_X5_37 : GoodIn lwG (wsV RX5 37 RX9 yX9_insurersOfPair (wA yX9_insurersOfPair cX9_insurersOfPair 6 (some .int))) := gA4 wm_X5_37 wi_X9_insurersOfPair wl_X9_X9_insurersOfPair wz_X9 wc_X9_insurersOfPair
theorem gv_X5_47 : GoodIn lwG (wsV RX5 47 RX9 yX9_likingOf (wA yX9_likingOf cX9_likingOf 3 (some .int))) := gA4 wm_X5_47 wi_X9_likingOf wl_X9_X9_likingOf wz_X9 wc_X9_likingOf
theorem gv_X5_50 : GoodIn lwG (wsV RX5 50 RX9 yX9_spouseOf (wA yX9_spouseOf cX9_spouseOf 3 (some .int))) := gA4 wm_X5_50 wi_X9_spouseOf wl_X9_X9_spouseOf wz_X9 wc_X9_spouseOf
theorem gv_X5_53 : GoodIn lwG (wsV RX5 53 RX9 yX9_isRuined (wA yX9_isRuined cX9_isRuined 2 (some .boolean))) := gA4 wm_X5_53 wi_X9_isRuined wl_X9_X9_isRuined wz_X9 wc_X9_isRuined
theorem gv_X5_56 : GoodIn lwG (wsV RX5 56 RX5 yX5_preferred (wA yX5_preferred cX5_preferred 7 (some .int))) := gA4 wm_X5_56 wi_X5_preferred wl_X5_X5_preferred wz_X5 wc_X5_preferred
theorem gv_X5_64 : GoodIn lwG (wsV RX5 64 RX5 yX5_areLovers (wA yX5_areLovers cX5_areLovers 4 (some .boolean))) := gA4 wm_X5_64 wi_X5_areLovers wl_X5_X5_areLovers wz_X5 wc_X5_areLovers
theorem gv_X5_71 : GoodIn lwG (wsV RX5 71 RX6 yX6_putAll (wA yX6_putAll cX6_putAll 3 none)) := gA4 wm_X5_71 wi_X6_putAll wl_X6_X6_putAll wz_X6 wc_X6_putAll
theorem gv_X5_74 : GoodIn lwG (wsV RX5 74 RX5 yX5_pairUp (wA yX5_pairUp cX5_pairUp 6 none)) := gA4 wm_X5_74 wi_X5_pairUp wl_X5_X5_pairUp wz_X5 wc_X5_pairUp
theorem gv_X5_78 : GoodIn lwG (wsV RX5 78 RX5 yX5_steadyWays (wA yX5_steadyWays cX5_steadyWays 2 (some .int))) := gA4 wm_X5_78 wi_X5_steadyWays wl_X5_X5_steadyWays wz_X5 wc_X5_steadyWays
theorem gv_X5_82 : GoodIn lwG (wsV RX5 82 RX6 yX6_at (wA yX6_at cX6_at 2 (some .int))) := gA4 wm_X5_82 wi_X6_at wl_X6_X6_at wz_X6 wc_X6_at
theorem gv_X5_85 : GoodIn lwG (wsV RX5 85 RX5 yX5_firstWithout (wA yX5_firstWithout cX5_firstWithout 3 (some .int))) := gA4 wm_X5_85 wi_X5_firstWithout wl_X5_X5_firstWithout wz_X5 wc_X5_firstWithout
theorem gv_X5_88 : GoodIn lwG (wsV RX5 88 RX5 yX5_countIfSteady (wA yX5_countIfSteady cX5_countIfSteady 4 none)) := gA4 wm_X5_88 wi_X5_countIfSteady wl_X5_X5_countIfSteady wz_X5 wc_X5_countIfSteady
theorem gv_X5_92 : GoodIn lwG (wsV RX5 92 RX5 yX5_tryPair (wA yX5_tryPair cX5_tryPair 6 none)) := gA4 wm_X5_92 wi_X5_tryPair wl_X5_X5_tryPair wz_X5 wc_X5_tryPair
theorem gv_X5_96 : GoodIn lwG (wsV RX5 96 RX6 yX6_put (wA yX6_put cX6_put 3 none)) := gA4 wm_X5_96 wi_X6_put wl_X6_X6_put wz_X6 wc_X6_put
theorem gv_X7_50 : GoodIn lwG (wsV RX7 50 RX6 yX6_copyAll (wA yX6_copyAll cX6_copyAll 2 none)) := gA4 wm_X7_50 wi_X6_copyAll wl_X6_X6_copyAll wz_X6 wc_X6_copyAll
theorem gv_X7_87 : GoodIn lwG (wsV RX7 87 RX6 yX6_at (wA yX6_at cX6_at 2 (some .int))) := gA4 wm_X7_87 wi_X6_at wl_X6_X6_at wz_X6 wc_X6_at
theorem gv_X8_33 : GoodIn lwG (wsV RX8 33 RX6 yX6_at (wA yX6_at cX6_at 2 (some .int))) := gA4 wm_X8_33 wi_X6_at wl_X6_X6_at wz_X6 wc_X6_at
theorem gv_X8_37 : GoodIn lwG (wsV RX8 37 RX6 yX6_put (wA yX6_put cX6_put 3 none)) := gA4 wm_X8_37 wi_X6_put wl_X6_X6_put wz_X6 wc_X6_put
theorem gv_X8_46 : GoodIn lwG (wsV RX8 46 RX6 yX6_putAll (wA yX6_putAll cX6_putAll 3 none)) := gA4 wm_X8_46 wi_X6_putAll wl_X6_X6_putAll wz_X6 wc_X6_putAll
theorem gv_X8_49 : GoodIn lwG (wsV RX8 49 RX8 yX8_fits (wA yX8_fits cX8_fits 3 (some .boolean))) := gA4 wm_X8_49 wi_X8_fits wl_X8_X8_fits wz_X8 wc_X8_fits
theorem gv_X8_53 : GoodIn lwG (wsV RX8 53 RX8 yX8_addMembers (wA yX8_addMembers cX8_addMembers 3 none)) := gA4 wm_X8_53 wi_X8_addMembers wl_X8_X8_addMembers wz_X8 wc_X8_addMembers
theorem gv_X8_60 : GoodIn lwG (wsV RX8 60 RX8 yX8_fitting (wA yX8_fitting cX8_fitting 3 (some .int))) := gA4 wm_X8_60 wi_X8_fitting wl_X8_X8_fitting wz_X8 wc_X8_fitting
theorem gv_X9_102 : GoodIn lwG (wsV RX9 102 RX9 yX9_isRuined (wA yX9_isRuined cX9_isRuined 2 (some .boolean))) := gA4 wm_X9_102 wi_X9_isRuined wl_X9_X9_isRuined wz_X9 wc_X9_isRuined
theorem gv_X9_106 : GoodIn lwG (wsV RX9 106 RX9 yX9_ringSteps (wA yX9_ringSteps cX9_ringSteps 4 (some .int))) := gA4 wm_X9_106 wi_X9_ringSteps wl_X9_X9_ringSteps wz_X9 wc_X9_ringSteps
theorem gv_X9_109 : GoodIn lwG (wsV RX9 109 RX9 yX9_isLeastOfRing (wA yX9_isLeastOfRing cX9_isLeastOfRing 4 (some .boolean))) := gA4 wm_X9_109 wi_X9_isLeastOfRing wl_X9_X9_isLeastOfRing wz_X9 wc_X9_isLeastOfRing
theorem gv_X9_112 : GoodIn lwG (wsV RX9 112 RX9 yX9_comesTo (wA yX9_comesTo cX9_comesTo 5 (some .boolean))) := gA4 wm_X9_112 wi_X9_comesTo wl_X9_X9_comesTo wz_X9 wc_X9_comesTo
theorem gv_X9_118 : GoodIn lwG (wsV RX9 118 RX9 yX9_isOver (wA yX9_isOver cX9_isOver 2 (some .boolean))) := gA4 wm_X9_118 wi_X9_isOver wl_X9_X9_isOver wz_X9 wc_X9_isOver
theorem gv_X9_121 : GoodIn lwG (wsV RX9 121 RX9 yX9_firstOf (wA yX9_firstOf cX9_firstOf 2 (some .int))) := gA4 wm_X9_121 wi_X9_firstOf wl_X9_X9_firstOf wz_X9 wc_X9_firstOf
theorem gv_X9_124 : GoodIn lwG (wsV RX9 124 RX9 yX9_secondOf (wA yX9_secondOf cX9_secondOf 2 (some .int))) := gA4 wm_X9_124 wi_X9_secondOf wl_X9_X9_secondOf wz_X9 wc_X9_secondOf
theorem gv_X9_127 : GoodIn lwG (wsV RX9 127 RX9 yX9_spouseOf (wA yX9_spouseOf cX9_spouseOf 3 (some .int))) := gA4 wm_X9_127 wi_X9_spouseOf wl_X9_X9_spouseOf wz_X9 wc_X9_spouseOf
theorem gv_X9_130 : GoodIn lwG (wsV RX9 130 RX9 yX9_isWed (wA yX9_isWed cX9_isWed 2 (some .boolean))) := gA4 wm_X9_130 wi_X9_isWed wl_X9_X9_isWed wz_X9 wc_X9_isWed
theorem gv_X9_138 : GoodIn lwG (wsV RX9 138 RX9 yX9_insurersOfPair (wA yX9_insurersOfPair cX9_insurersOfPair 6 (some .int))) := gA4 wm_X9_138 wi_X9_insurersOfPair wl_X9_X9_insurersOfPair wz_X9 wc_X9_insurersOfPair
theorem gv_X9_150 : GoodIn lwG (wsV RX9 150 RX9 yX9_insurersOf (wA yX9_insurersOf cX9_insurersOf 2 (some .int))) := gA4 wm_X9_150 wi_X9_insurersOf wl_X9_X9_insurersOf wz_X9 wc_X9_insurersOf
theorem gv_X9_156 : GoodIn lwG (wsV RX9 156 RX9 yX9_likingOf (wA yX9_likingOf cX9_likingOf 3 (some .int))) := gA4 wm_X9_156 wi_X9_likingOf wl_X9_X9_likingOf wz_X9 wc_X9_likingOf
theorem gv_X9_168 : GoodIn lwG (wsV RX9 168 RX9 yX9_passMatch (wA yX9_passMatch cX9_passMatch 5 none)) := gA4 wm_X9_168 wi_X9_passMatch wl_X9_X9_passMatch wz_X9 wc_X9_passMatch
theorem gv_X9_177 : GoodIn lwG (wsV RX9 177 RX9 yX9_payPremiums (wA yX9_payPremiums cX9_payPremiums 6 none)) := gA4 wm_X9_177 wi_X9_payPremiums wl_X9_X9_payPremiums wz_X9 wc_X9_payPremiums
theorem gv_X9_180 : GoodIn lwG (wsV RX9 180 RX9 yX9_lookAt (wA yX9_lookAt cX9_lookAt 6 none)) := gA4 wm_X9_180 wi_X9_lookAt wl_X9_X9_lookAt wz_X9 wc_X9_lookAt
theorem gv_X9_184 : GoodIn lwG (wsV RX9 184 RX4 yX4_happyTurned (wA yX4_happyTurned cX4_happyTurned 2 (some .int))) := gA4 wm_X9_184 wi_X4_happyTurned wl_X4_X4_happyTurned wz_X4 wc_X4_happyTurned
theorem gv_X9_188 : GoodIn lwG (wsV RX9 188 RX9 yX9_payClaim (wA yX9_payClaim cX9_payClaim 5 (some .int))) := gA4 wm_X9_188 wi_X9_payClaim wl_X9_X9_payClaim wz_X9 wc_X9_payClaim
theorem gv_X9_191 : GoodIn lwG (wsV RX9 191 RX9 yX9_addToLog (wA yX9_addToLog cX9_addToLog 5 none)) := gA4 wm_X9_191 wi_X9_addToLog wl_X9_X9_addToLog wz_X9 wc_X9_addToLog
theorem gv_X9_195 : GoodIn lwG (wsV RX9 195 RX9 yX9_endMatch (wA yX9_endMatch cX9_endMatch 2 none)) := gA4 wm_X9_195 wi_X9_endMatch wl_X9_X9_endMatch wz_X9 wc_X9_endMatch
theorem gv_X9_198 : GoodIn lwG (wsV RX9 198 RX9 yX9_take (wA yX9_take cX9_take 4 (some .int))) := gA4 wm_X9_198 wi_X9_take wl_X9_X9_take wz_X9 wc_X9_take
theorem gv_X9_201 : GoodIn lwG (wsV RX9 201 RX9 yX9_give (wA yX9_give cX9_give 3 none)) := gA4 wm_X9_201 wi_X9_give wl_X9_X9_give wz_X9 wc_X9_give
theorem gv_X9_204 : GoodIn lwG (wsV RX9 204 RX9 yX9_payOut (wA yX9_payOut cX9_payOut 3 (some .int))) := gA4 wm_X9_204 wi_X9_payOut wl_X9_X9_payOut wz_X9 wc_X9_payOut
theorem gv_X9_207 : GoodIn lwG (wsV RX9 207 RX9 yX9_ruinIfShort (wA yX9_ruinIfShort cX9_ruinIfShort 3 none)) := gA4 wm_X9_207 wi_X9_ruinIfShort wl_X9_X9_ruinIfShort wz_X9 wc_X9_ruinIfShort
theorem gv_X9_210 : GoodIn lwG (wsV RX9 210 RX9 yX9_logRows (wA yX9_logRows cX9_logRows 1 (some .int))) := gA4 wm_X9_210 wi_X9_logRows wl_X9_X9_logRows wz_X9 wc_X9_logRows
theorem gv_X9_213 : GoodIn lwG (wsV RX9 213 RX9 yX9_logged (wA yX9_logged cX9_logged 3 (some .int))) := gA4 wm_X9_213 wi_X9_logged wl_X9_X9_logged wz_X9 wc_X9_logged
theorem gv_X9_54 : GoodIn lwG (wsV RX9 54 RX9 yX9_copyPurses (wA yX9_copyPurses cX9_copyPurses 2 none)) := gA4 wm_X9_54 wi_X9_copyPurses wl_X9_X9_copyPurses wz_X9 wc_X9_copyPurses
theorem gv_X9_58 : GoodIn lwG (wsV RX9 58 RX6 yX6_copyAll (wA yX6_copyAll cX6_copyAll 2 none)) := gA4 wm_X9_58 wi_X6_copyAll wl_X6_X6_copyAll wz_X6 wc_X6_copyAll
theorem gv_X9_86 : GoodIn lwG (wsV RX9 86 RX6 yX6_put (wA yX6_put cX6_put 3 none)) := gA4 wm_X9_86 wi_X6_put wl_X6_X6_put wz_X6 wc_X6_put
theorem gv_X9_90 : GoodIn lwG (wsV RX9 90 RX6 yX6_at (wA yX6_at cX6_at 2 (some .int))) := gA4 wm_X9_90 wi_X6_at wl_X6_X6_at wz_X6 wc_X6_at
theorem gv_X9_98 : GoodIn lwG (wsV RX9 98 RX9 yX9_wealthOfAll (wA yX9_wealthOfAll cX9_wealthOfAll 3 (some .int))) := gA4 wm_X9_98 wi_X9_wealthOfAll wl_X9_X9_wealthOfAll wz_X9 wc_X9_wealthOfAll
theorem ok_Town_61 : isTown 61 := ⟨rfl, ⟨rfl, rfl⟩, ⟨rfl, rfl⟩, ⟨rfl, rfl⟩, ⟨rfl, rfl⟩, ⟨rfl, rfl⟩, ⟨rfl, rfl⟩, ⟨rfl, rfl⟩, ⟨rfl, rfl⟩⟩
theorem ok_Text_54 : isText 54 := ⟨Or.inl rfl, ⟨rfl, rfl⟩, rfl, rfl, rfl, rfl⟩
theorem ok_Row_55 : isRow 55 400 := ⟨rfl, rfl⟩
theorem ok_Look_112 : isLook 112 := rfl
theorem ok_Row_113 : isRow 113 100 := ⟨rfl, rfl⟩
theorem ok_Row_115 : isRow 115 100 := ⟨rfl, rfl⟩
theorem ok_Town_95 : isTown 95 := ⟨rfl, ⟨rfl, rfl⟩, ⟨rfl, rfl⟩, ⟨rfl, rfl⟩, ⟨rfl, rfl⟩, ⟨rfl, rfl⟩, ⟨rfl, rfl⟩, ⟨rfl, rfl⟩, ⟨rfl, rfl⟩⟩
theorem ok_Row_123 : isRow 123 12 := ⟨rfl, rfl⟩
theorem ok_Row_125 : isRow 125 12 := ⟨rfl, rfl⟩
theorem ok_Row_127 : isRow 127 8 := ⟨rfl, rfl⟩
theorem ok_Row_118 : isRow 118 8 := ⟨rfl, rfl⟩
theorem ok_Row_120 : isRow 120 8 := ⟨rfl, rfl⟩
theorem ok_Law_85 : isLaw 85 := ⟨rfl, ⟨rfl, rfl⟩, ⟨rfl, rfl⟩, rfl, ⟨rfl, rfl⟩⟩
theorem ok_Text_78 : isText 78 := ⟨Or.inr rfl, ⟨rfl, rfl⟩, rfl, rfl, rfl, rfl⟩
theorem ok_Row_1 : isRow 1 400 := ⟨rfl, rfl⟩
theorem ok_Town_3 : isTown 3 := ⟨rfl, ⟨rfl, rfl⟩, ⟨rfl, rfl⟩, ⟨rfl, rfl⟩, ⟨rfl, rfl⟩, ⟨rfl, rfl⟩, ⟨rfl, rfl⟩, ⟨rfl, rfl⟩, ⟨rfl, rfl⟩⟩
theorem ok_Town_28 : isTown 28 := ⟨rfl, ⟨rfl, rfl⟩, ⟨rfl, rfl⟩, ⟨rfl, rfl⟩, ⟨rfl, rfl⟩, ⟨rfl, rfl⟩, ⟨rfl, rfl⟩, ⟨rfl, rfl⟩, ⟨rfl, rfl⟩⟩
theorem ok_Law_45 : isLaw 45 := ⟨rfl, ⟨rfl, rfl⟩, ⟨rfl, rfl⟩, rfl, ⟨rfl, rfl⟩⟩
theorem ok_Law_20 : isLaw 20 := ⟨rfl, ⟨rfl, rfl⟩, ⟨rfl, rfl⟩, rfl, ⟨rfl, rfl⟩⟩
theorem ok_Look_93 : isLook 93 := rfl
theorem yk_X6_at : yX6_at.cls = RX6 ∧ yX6_at.cls ≠ "java/lang/invoke/MethodHandle" ∧ yX6_at.cls ≠ "java/lang/invoke/VarHandle" ∧ (parseMethodDescriptor yX6_at.desc).map (fun d => d.parameters.length) = some 1 := ⟨rfl, by decide +kernel, by decide +kernel, by decide +kernel⟩
theorem yk_X1_isSpelt : yX1_isSpelt.cls = RX1 ∧ yX1_isSpelt.cls ≠ "java/lang/invoke/MethodHandle" ∧ yX1_isSpelt.cls ≠ "java/lang/invoke/VarHandle" ∧ (parseMethodDescriptor yX1_isSpelt.desc).map (fun d => d.parameters.length) = some 3 := ⟨rfl, by decide +kernel, by decide +kernel, by decide +kernel⟩
theorem yk_X7_advance : yX7_advance.cls = RX7 ∧ yX7_advance.cls ≠ "java/lang/invoke/MethodHandle" ∧ yX7_advance.cls ≠ "java/lang/invoke/VarHandle" ∧ (parseMethodDescriptor yX7_advance.desc).map (fun d => d.parameters.length) = some 0 := ⟨rfl, by decide +kernel, by decide +kernel, by decide +kernel⟩
theorem ykx_X7_advance : ("RivalWeds$Text" : String) ≠ "java/lang/invoke/MethodHandle" ∧ ("RivalWeds$Text" : String) ≠ "java/lang/invoke/VarHandle" ∧ (parseMethodDescriptor yX7_advance.desc).map (fun d => d.parameters.length) = some 0 := ⟨by decide +kernel, by decide +kernel, by decide +kernel⟩
theorem yk_X7_refuse : yX7_refuse.cls = RX7 ∧ yX7_refuse.cls ≠ "java/lang/invoke/MethodHandle" ∧ yX7_refuse.cls ≠ "java/lang/invoke/VarHandle" ∧ (parseMethodDescriptor yX7_refuse.desc).map (fun d => d.parameters.length) = some 0 := ⟨rfl, by decide +kernel, by decide +kernel, by decide +kernel⟩
theorem ykx_X7_refuse : ("RivalWeds$Text" : String) ≠ "java/lang/invoke/MethodHandle" ∧ ("RivalWeds$Text" : String) ≠ "java/lang/invoke/VarHandle" ∧ (parseMethodDescriptor yX7_refuse.desc).map (fun d => d.parameters.length) = some 0 := ⟨by decide +kernel, by decide +kernel, by decide +kernel⟩
theorem yk_X7_isLetter : yX7_isLetter.cls = RX7 ∧ yX7_isLetter.cls ≠ "java/lang/invoke/MethodHandle" ∧ yX7_isLetter.cls ≠ "java/lang/invoke/VarHandle" ∧ (parseMethodDescriptor yX7_isLetter.desc).map (fun d => d.parameters.length) = some 1 := ⟨rfl, by decide +kernel, by decide +kernel, by decide +kernel⟩
theorem yk_X7_isDigit : yX7_isDigit.cls = RX7 ∧ yX7_isDigit.cls ≠ "java/lang/invoke/MethodHandle" ∧ yX7_isDigit.cls ≠ "java/lang/invoke/VarHandle" ∧ (parseMethodDescriptor yX7_isDigit.desc).map (fun d => d.parameters.length) = some 1 := ⟨rfl, by decide +kernel, by decide +kernel, by decide +kernel⟩
theorem yk_X1_spelt : yX1_spelt.cls = RX1 ∧ yX1_spelt.cls ≠ "java/lang/invoke/MethodHandle" ∧ yX1_spelt.cls ≠ "java/lang/invoke/VarHandle" ∧ (parseMethodDescriptor yX1_spelt.desc).map (fun d => d.parameters.length) = some 3 := ⟨rfl, by decide +kernel, by decide +kernel, by decide +kernel⟩
theorem yk_X7_numberAt : yX7_numberAt.cls = RX7 ∧ yX7_numberAt.cls ≠ "java/lang/invoke/MethodHandle" ∧ yX7_numberAt.cls ≠ "java/lang/invoke/VarHandle" ∧ (parseMethodDescriptor yX7_numberAt.desc).map (fun d => d.parameters.length) = some 2 := ⟨rfl, by decide +kernel, by decide +kernel, by decide +kernel⟩
theorem ykx_X7_numberAt : ("RivalWeds$Text" : String) ≠ "java/lang/invoke/MethodHandle" ∧ ("RivalWeds$Text" : String) ≠ "java/lang/invoke/VarHandle" ∧ (parseMethodDescriptor yX7_numberAt.desc).map (fun d => d.parameters.length) = some 2 := ⟨by decide +kernel, by decide +kernel, by decide +kernel⟩
theorem yk_X7_stopOf : yX7_stopOf.cls = RX7 ∧ yX7_stopOf.cls ≠ "java/lang/invoke/MethodHandle" ∧ yX7_stopOf.cls ≠ "java/lang/invoke/VarHandle" ∧ (parseMethodDescriptor yX7_stopOf.desc).map (fun d => d.parameters.length) = some 1 := ⟨rfl, by decide +kernel, by decide +kernel, by decide +kernel⟩
theorem ykx_X7_stopOf : ("RivalWeds$Text" : String) ≠ "java/lang/invoke/MethodHandle" ∧ ("RivalWeds$Text" : String) ≠ "java/lang/invoke/VarHandle" ∧ (parseMethodDescriptor yX7_stopOf.desc).map (fun d => d.parameters.length) = some 1 := ⟨by decide +kernel, by decide +kernel, by decide +kernel⟩
theorem yk_X7_addThing : yX7_addThing.cls = RX7 ∧ yX7_addThing.cls ≠ "java/lang/invoke/MethodHandle" ∧ yX7_addThing.cls ≠ "java/lang/invoke/VarHandle" ∧ (parseMethodDescriptor yX7_addThing.desc).map (fun d => d.parameters.length) = some 2 := ⟨rfl, by decide +kernel, by decide +kernel, by decide +kernel⟩
theorem ykx_X7_addThing : ("RivalWeds$Text" : String) ≠ "java/lang/invoke/MethodHandle" ∧ ("RivalWeds$Text" : String) ≠ "java/lang/invoke/VarHandle" ∧ (parseMethodDescriptor yX7_addThing.desc).map (fun d => d.parameters.length) = some 2 := ⟨by decide +kernel, by decide +kernel, by decide +kernel⟩
theorem yk_X6_copyAll : yX6_copyAll.cls = RX6 ∧ yX6_copyAll.cls ≠ "java/lang/invoke/MethodHandle" ∧ yX6_copyAll.cls ≠ "java/lang/invoke/VarHandle" ∧ (parseMethodDescriptor yX6_copyAll.desc).map (fun d => d.parameters.length) = some 1 := ⟨rfl, by decide +kernel, by decide +kernel, by decide +kernel⟩
theorem yk_X9_copyPurses : yX9_copyPurses.cls = RX9 ∧ yX9_copyPurses.cls ≠ "java/lang/invoke/MethodHandle" ∧ yX9_copyPurses.cls ≠ "java/lang/invoke/VarHandle" ∧ (parseMethodDescriptor yX9_copyPurses.desc).map (fun d => d.parameters.length) = some 1 := ⟨rfl, by decide +kernel, by decide +kernel, by decide +kernel⟩
theorem yk_X6_put : yX6_put.cls = RX6 ∧ yX6_put.cls ≠ "java/lang/invoke/MethodHandle" ∧ yX6_put.cls ≠ "java/lang/invoke/VarHandle" ∧ (parseMethodDescriptor yX6_put.desc).map (fun d => d.parameters.length) = some 2 := ⟨rfl, by decide +kernel, by decide +kernel, by decide +kernel⟩
theorem yk_X11_contains : yX11_contains.cls = RX11 ∧ yX11_contains.cls ≠ "java/lang/invoke/MethodHandle" ∧ yX11_contains.cls ≠ "java/lang/invoke/VarHandle" ∧ (parseMethodDescriptor yX11_contains.desc).map (fun d => d.parameters.length) = some 2 := ⟨rfl, by decide +kernel, by decide +kernel, by decide +kernel⟩
theorem yk_X9_wealthOfAll : yX9_wealthOfAll.cls = RX9 ∧ yX9_wealthOfAll.cls ≠ "java/lang/invoke/MethodHandle" ∧ yX9_wealthOfAll.cls ≠ "java/lang/invoke/VarHandle" ∧ (parseMethodDescriptor yX9_wealthOfAll.desc).map (fun d => d.parameters.length) = some 0 := ⟨rfl, by decide +kernel, by decide +kernel, by decide +kernel⟩
theorem yk_X9_isRuined : yX9_isRuined.cls = RX9 ∧ yX9_isRuined.cls ≠ "java/lang/invoke/MethodHandle" ∧ yX9_isRuined.cls ≠ "java/lang/invoke/VarHandle" ∧ (parseMethodDescriptor yX9_isRuined.desc).map (fun d => d.parameters.length) = some 1 := ⟨rfl, by decide +kernel, by decide +kernel, by decide +kernel⟩
theorem yk_X9_ringSteps : yX9_ringSteps.cls = RX9 ∧ yX9_ringSteps.cls ≠ "java/lang/invoke/MethodHandle" ∧ yX9_ringSteps.cls ≠ "java/lang/invoke/VarHandle" ∧ (parseMethodDescriptor yX9_ringSteps.desc).map (fun d => d.parameters.length) = some 1 := ⟨rfl, by decide +kernel, by decide +kernel, by decide +kernel⟩
theorem yk_X9_isLeastOfRing : yX9_isLeastOfRing.cls = RX9 ∧ yX9_isLeastOfRing.cls ≠ "java/lang/invoke/MethodHandle" ∧ yX9_isLeastOfRing.cls ≠ "java/lang/invoke/VarHandle" ∧ (parseMethodDescriptor yX9_isLeastOfRing.desc).map (fun d => d.parameters.length) = some 1 := ⟨rfl, by decide +kernel, by decide +kernel, by decide +kernel⟩
theorem yk_X9_comesTo : yX9_comesTo.cls = RX9 ∧ yX9_comesTo.cls ≠ "java/lang/invoke/MethodHandle" ∧ yX9_comesTo.cls ≠ "java/lang/invoke/VarHandle" ∧ (parseMethodDescriptor yX9_comesTo.desc).map (fun d => d.parameters.length) = some 2 := ⟨rfl, by decide +kernel, by decide +kernel, by decide +kernel⟩
theorem yk_X11_happyWithin : yX11_happyWithin.cls = RX11 ∧ yX11_happyWithin.cls ≠ "java/lang/invoke/MethodHandle" ∧ yX11_happyWithin.cls ≠ "java/lang/invoke/VarHandle" ∧ (parseMethodDescriptor yX11_happyWithin.desc).map (fun d => d.parameters.length) = some 1 := ⟨rfl, by decide +kernel, by decide +kernel, by decide +kernel⟩
theorem yk_X9_isOver : yX9_isOver.cls = RX9 ∧ yX9_isOver.cls ≠ "java/lang/invoke/MethodHandle" ∧ yX9_isOver.cls ≠ "java/lang/invoke/VarHandle" ∧ (parseMethodDescriptor yX9_isOver.desc).map (fun d => d.parameters.length) = some 1 := ⟨rfl, by decide +kernel, by decide +kernel, by decide +kernel⟩
theorem yk_X9_secondOf : yX9_secondOf.cls = RX9 ∧ yX9_secondOf.cls ≠ "java/lang/invoke/MethodHandle" ∧ yX9_secondOf.cls ≠ "java/lang/invoke/VarHandle" ∧ (parseMethodDescriptor yX9_secondOf.desc).map (fun d => d.parameters.length) = some 1 := ⟨rfl, by decide +kernel, by decide +kernel, by decide +kernel⟩
theorem yk_X9_firstOf : yX9_firstOf.cls = RX9 ∧ yX9_firstOf.cls ≠ "java/lang/invoke/MethodHandle" ∧ yX9_firstOf.cls ≠ "java/lang/invoke/VarHandle" ∧ (parseMethodDescriptor yX9_firstOf.desc).map (fun d => d.parameters.length) = some 1 := ⟨rfl, by decide +kernel, by decide +kernel, by decide +kernel⟩
theorem yk_X9_spouseOf : yX9_spouseOf.cls = RX9 ∧ yX9_spouseOf.cls ≠ "java/lang/invoke/MethodHandle" ∧ yX9_spouseOf.cls ≠ "java/lang/invoke/VarHandle" ∧ (parseMethodDescriptor yX9_spouseOf.desc).map (fun d => d.parameters.length) = some 1 := ⟨rfl, by decide +kernel, by decide +kernel, by decide +kernel⟩
theorem yk_X9_isWed : yX9_isWed.cls = RX9 ∧ yX9_isWed.cls ≠ "java/lang/invoke/MethodHandle" ∧ yX9_isWed.cls ≠ "java/lang/invoke/VarHandle" ∧ (parseMethodDescriptor yX9_isWed.desc).map (fun d => d.parameters.length) = some 1 := ⟨rfl, by decide +kernel, by decide +kernel, by decide +kernel⟩
theorem yk_J6_bitCount_0f7a4 : yJ6_bitCount_0f7a4.cls = RJ6 ∧ yJ6_bitCount_0f7a4.cls ≠ "java/lang/invoke/MethodHandle" ∧ yJ6_bitCount_0f7a4.cls ≠ "java/lang/invoke/VarHandle" ∧ (parseMethodDescriptor yJ6_bitCount_0f7a4.desc).map (fun d => d.parameters.length) = some 1 := ⟨rfl, by decide +kernel, by decide +kernel, by decide +kernel⟩
theorem yk_X9_insurersOfPair : yX9_insurersOfPair.cls = RX9 ∧ yX9_insurersOfPair.cls ≠ "java/lang/invoke/MethodHandle" ∧ yX9_insurersOfPair.cls ≠ "java/lang/invoke/VarHandle" ∧ (parseMethodDescriptor yX9_insurersOfPair.desc).map (fun d => d.parameters.length) = some 2 := ⟨rfl, by decide +kernel, by decide +kernel, by decide +kernel⟩
theorem yk_X9_insurersOf : yX9_insurersOf.cls = RX9 ∧ yX9_insurersOf.cls ≠ "java/lang/invoke/MethodHandle" ∧ yX9_insurersOf.cls ≠ "java/lang/invoke/VarHandle" ∧ (parseMethodDescriptor yX9_insurersOf.desc).map (fun d => d.parameters.length) = some 1 := ⟨rfl, by decide +kernel, by decide +kernel, by decide +kernel⟩
theorem yk_X9_likingOf : yX9_likingOf.cls = RX9 ∧ yX9_likingOf.cls ≠ "java/lang/invoke/MethodHandle" ∧ yX9_likingOf.cls ≠ "java/lang/invoke/VarHandle" ∧ (parseMethodDescriptor yX9_likingOf.desc).map (fun d => d.parameters.length) = some 2 := ⟨rfl, by decide +kernel, by decide +kernel, by decide +kernel⟩
theorem yk_X9_ruinIfShort : yX9_ruinIfShort.cls = RX9 ∧ yX9_ruinIfShort.cls ≠ "java/lang/invoke/MethodHandle" ∧ yX9_ruinIfShort.cls ≠ "java/lang/invoke/VarHandle" ∧ (parseMethodDescriptor yX9_ruinIfShort.desc).map (fun d => d.parameters.length) = some 2 := ⟨rfl, by decide +kernel, by decide +kernel, by decide +kernel⟩
theorem yk_X9_take : yX9_take.cls = RX9 ∧ yX9_take.cls ≠ "java/lang/invoke/MethodHandle" ∧ yX9_take.cls ≠ "java/lang/invoke/VarHandle" ∧ (parseMethodDescriptor yX9_take.desc).map (fun d => d.parameters.length) = some 2 := ⟨rfl, by decide +kernel, by decide +kernel, by decide +kernel⟩
theorem yk_X9_give : yX9_give.cls = RX9 ∧ yX9_give.cls ≠ "java/lang/invoke/MethodHandle" ∧ yX9_give.cls ≠ "java/lang/invoke/VarHandle" ∧ (parseMethodDescriptor yX9_give.desc).map (fun d => d.parameters.length) = some 2 := ⟨rfl, by decide +kernel, by decide +kernel, by decide +kernel⟩
theorem yk_X9_payOut : yX9_payOut.cls = RX9 ∧ yX9_payOut.cls ≠ "java/lang/invoke/MethodHandle" ∧ yX9_payOut.cls ≠ "java/lang/invoke/VarHandle" ∧ (parseMethodDescriptor yX9_payOut.desc).map (fun d => d.parameters.length) = some 1 := ⟨rfl, by decide +kernel, by decide +kernel, by decide +kernel⟩
theorem yk_X9_logRows : yX9_logRows.cls = RX9 ∧ yX9_logRows.cls ≠ "java/lang/invoke/MethodHandle" ∧ yX9_logRows.cls ≠ "java/lang/invoke/VarHandle" ∧ (parseMethodDescriptor yX9_logRows.desc).map (fun d => d.parameters.length) = some 0 := ⟨rfl, by decide +kernel, by decide +kernel, by decide +kernel⟩
theorem yk_X9_logged : yX9_logged.cls = RX9 ∧ yX9_logged.cls ≠ "java/lang/invoke/MethodHandle" ∧ yX9_logged.cls ≠ "java/lang/invoke/VarHandle" ∧ (parseMethodDescriptor yX9_logged.desc).map (fun d => d.parameters.length) = some 2 := ⟨rfl, by decide +kernel, by decide +kernel, by decide +kernel⟩
theorem yk_X4_valueOf : yX4_valueOf.cls = RX4 ∧ yX4_valueOf.cls ≠ "java/lang/invoke/MethodHandle" ∧ yX4_valueOf.cls ≠ "java/lang/invoke/VarHandle" ∧ (parseMethodDescriptor yX4_valueOf.desc).map (fun d => d.parameters.length) = some 1 := ⟨rfl, by decide +kernel, by decide +kernel, by decide +kernel⟩
theorem yk_X2_joined : yX2_joined.cls = RX2 ∧ yX2_joined.cls ≠ "java/lang/invoke/MethodHandle" ∧ yX2_joined.cls ≠ "java/lang/invoke/VarHandle" ∧ (parseMethodDescriptor yX2_joined.desc).map (fun d => d.parameters.length) = some 3 := ⟨rfl, by decide +kernel, by decide +kernel, by decide +kernel⟩
theorem yk_X2_isMet : yX2_isMet.cls = RX2 ∧ yX2_isMet.cls ≠ "java/lang/invoke/MethodHandle" ∧ yX2_isMet.cls ≠ "java/lang/invoke/VarHandle" ∧ (parseMethodDescriptor yX2_isMet.desc).map (fun d => d.parameters.length) = some 3 := ⟨rfl, by decide +kernel, by decide +kernel, by decide +kernel⟩
theorem yk_X2_turnsBy : yX2_turnsBy.cls = RX2 ∧ yX2_turnsBy.cls ≠ "java/lang/invoke/MethodHandle" ∧ yX2_turnsBy.cls ≠ "java/lang/invoke/VarHandle" ∧ (parseMethodDescriptor yX2_turnsBy.desc).map (fun d => d.parameters.length) = some 1 := ⟨rfl, by decide +kernel, by decide +kernel, by decide +kernel⟩
theorem yk_X4_happyTurned : yX4_happyTurned.cls = RX4 ∧ yX4_happyTurned.cls ≠ "java/lang/invoke/MethodHandle" ∧ yX4_happyTurned.cls ≠ "java/lang/invoke/VarHandle" ∧ (parseMethodDescriptor yX4_happyTurned.desc).map (fun d => d.parameters.length) = some 1 := ⟨rfl, by decide +kernel, by decide +kernel, by decide +kernel⟩
theorem yk_X9_hasPerson : yX9_hasPerson.cls = RX9 ∧ yX9_hasPerson.cls ≠ "java/lang/invoke/MethodHandle" ∧ yX9_hasPerson.cls ≠ "java/lang/invoke/VarHandle" ∧ (parseMethodDescriptor yX9_hasPerson.desc).map (fun d => d.parameters.length) = some 1 := ⟨rfl, by decide +kernel, by decide +kernel, by decide +kernel⟩
theorem yk_X7_takeNumber : yX7_takeNumber.cls = RX7 ∧ yX7_takeNumber.cls ≠ "java/lang/invoke/MethodHandle" ∧ yX7_takeNumber.cls ≠ "java/lang/invoke/VarHandle" ∧ (parseMethodDescriptor yX7_takeNumber.desc).map (fun d => d.parameters.length) = some 1 := ⟨rfl, by decide +kernel, by decide +kernel, by decide +kernel⟩
theorem ykx_X7_takeNumber : ("RivalWeds$Text" : String) ≠ "java/lang/invoke/MethodHandle" ∧ ("RivalWeds$Text" : String) ≠ "java/lang/invoke/VarHandle" ∧ (parseMethodDescriptor yX7_takeNumber.desc).map (fun d => d.parameters.length) = some 1 := ⟨by decide +kernel, by decide +kernel, by decide +kernel⟩
theorem yk_X9_addPerson : yX9_addPerson.cls = RX9 ∧ yX9_addPerson.cls ≠ "java/lang/invoke/MethodHandle" ∧ yX9_addPerson.cls ≠ "java/lang/invoke/VarHandle" ∧ (parseMethodDescriptor yX9_addPerson.desc).map (fun d => d.parameters.length) = some 1 := ⟨rfl, by decide +kernel, by decide +kernel, by decide +kernel⟩
theorem yk_X10_takeSomebody : yX10_takeSomebody.cls = RX10 ∧ yX10_takeSomebody.cls ≠ "java/lang/invoke/MethodHandle" ∧ yX10_takeSomebody.cls ≠ "java/lang/invoke/VarHandle" ∧ (parseMethodDescriptor yX10_takeSomebody.desc).map (fun d => d.parameters.length) = some 2 := ⟨rfl, by decide +kernel, by decide +kernel, by decide +kernel⟩
theorem yk_X9_setLiking : yX9_setLiking.cls = RX9 ∧ yX9_setLiking.cls ≠ "java/lang/invoke/MethodHandle" ∧ yX9_setLiking.cls ≠ "java/lang/invoke/VarHandle" ∧ (parseMethodDescriptor yX9_setLiking.desc).map (fun d => d.parameters.length) = some 3 := ⟨rfl, by decide +kernel, by decide +kernel, by decide +kernel⟩
theorem yk_X9_addAsked : yX9_addAsked.cls = RX9 ∧ yX9_addAsked.cls ≠ "java/lang/invoke/MethodHandle" ∧ yX9_addAsked.cls ≠ "java/lang/invoke/VarHandle" ∧ (parseMethodDescriptor yX9_addAsked.desc).map (fun d => d.parameters.length) = some 2 := ⟨rfl, by decide +kernel, by decide +kernel, by decide +kernel⟩
theorem yk_X7_needs : yX7_needs.cls = RX7 ∧ yX7_needs.cls ≠ "java/lang/invoke/MethodHandle" ∧ yX7_needs.cls ≠ "java/lang/invoke/VarHandle" ∧ (parseMethodDescriptor yX7_needs.desc).map (fun d => d.parameters.length) = some 1 := ⟨rfl, by decide +kernel, by decide +kernel, by decide +kernel⟩
theorem ykx_X7_needs : ("RivalWeds$Text" : String) ≠ "java/lang/invoke/MethodHandle" ∧ ("RivalWeds$Text" : String) ≠ "java/lang/invoke/VarHandle" ∧ (parseMethodDescriptor yX7_needs.desc).map (fun d => d.parameters.length) = some 1 := ⟨by decide +kernel, by decide +kernel, by decide +kernel⟩
theorem yk_X9_addMatch : yX9_addMatch.cls = RX9 ∧ yX9_addMatch.cls ≠ "java/lang/invoke/MethodHandle" ∧ yX9_addMatch.cls ≠ "java/lang/invoke/VarHandle" ∧ (parseMethodDescriptor yX9_addMatch.desc).map (fun d => d.parameters.length) = some 3 := ⟨rfl, by decide +kernel, by decide +kernel, by decide +kernel⟩
theorem yk_X10_readsTwo : yX10_readsTwo.cls = RX10 ∧ yX10_readsTwo.cls ≠ "java/lang/invoke/MethodHandle" ∧ yX10_readsTwo.cls ≠ "java/lang/invoke/VarHandle" ∧ (parseMethodDescriptor yX10_readsTwo.desc).map (fun d => d.parameters.length) = some 1 := ⟨rfl, by decide +kernel, by decide +kernel, by decide +kernel⟩
theorem yk_X10_readsSetting : yX10_readsSetting.cls = RX10 ∧ yX10_readsSetting.cls ≠ "java/lang/invoke/MethodHandle" ∧ yX10_readsSetting.cls ≠ "java/lang/invoke/VarHandle" ∧ (parseMethodDescriptor yX10_readsSetting.desc).map (fun d => d.parameters.length) = some 1 := ⟨rfl, by decide +kernel, by decide +kernel, by decide +kernel⟩
theorem yk_X10_readsWed : yX10_readsWed.cls = RX10 ∧ yX10_readsWed.cls ≠ "java/lang/invoke/MethodHandle" ∧ yX10_readsWed.cls ≠ "java/lang/invoke/VarHandle" ∧ (parseMethodDescriptor yX10_readsWed.desc).map (fun d => d.parameters.length) = some 0 := ⟨rfl, by decide +kernel, by decide +kernel, by decide +kernel⟩
theorem yk_X10_readsLikes : yX10_readsLikes.cls = RX10 ∧ yX10_readsLikes.cls ≠ "java/lang/invoke/MethodHandle" ∧ yX10_readsLikes.cls ≠ "java/lang/invoke/VarHandle" ∧ (parseMethodDescriptor yX10_readsLikes.desc).map (fun d => d.parameters.length) = some 0 := ⟨rfl, by decide +kernel, by decide +kernel, by decide +kernel⟩
theorem yk_X10_readsPerson : yX10_readsPerson.cls = RX10 ∧ yX10_readsPerson.cls ≠ "java/lang/invoke/MethodHandle" ∧ yX10_readsPerson.cls ≠ "java/lang/invoke/VarHandle" ∧ (parseMethodDescriptor yX10_readsPerson.desc).map (fun d => d.parameters.length) = some 0 := ⟨rfl, by decide +kernel, by decide +kernel, by decide +kernel⟩
theorem yk_X7_cut : yX7_cut.cls = RX7 ∧ yX7_cut.cls ≠ "java/lang/invoke/MethodHandle" ∧ yX7_cut.cls ≠ "java/lang/invoke/VarHandle" ∧ (parseMethodDescriptor yX7_cut.desc).map (fun d => d.parameters.length) = some 0 := ⟨rfl, by decide +kernel, by decide +kernel, by decide +kernel⟩
theorem ykx_X7_cut : ("RivalWeds$Text" : String) ≠ "java/lang/invoke/MethodHandle" ∧ ("RivalWeds$Text" : String) ≠ "java/lang/invoke/VarHandle" ∧ (parseMethodDescriptor yX7_cut.desc).map (fun d => d.parameters.length) = some 0 := ⟨by decide +kernel, by decide +kernel, by decide +kernel⟩
theorem yk_X10_readsLine : yX10_readsLine.cls = RX10 ∧ yX10_readsLine.cls ≠ "java/lang/invoke/MethodHandle" ∧ yX10_readsLine.cls ≠ "java/lang/invoke/VarHandle" ∧ (parseMethodDescriptor yX10_readsLine.desc).map (fun d => d.parameters.length) = some 0 := ⟨rfl, by decide +kernel, by decide +kernel, by decide +kernel⟩
theorem ykx_X10_readsLine : ("RivalWeds$Text" : String) ≠ "java/lang/invoke/MethodHandle" ∧ ("RivalWeds$Text" : String) ≠ "java/lang/invoke/VarHandle" ∧ (parseMethodDescriptor yX10_readsLine.desc).map (fun d => d.parameters.length) = some 0 := ⟨by decide +kernel, by decide +kernel, by decide +kernel⟩
theorem yk_X9_payPremiums : yX9_payPremiums.cls = RX9 ∧ yX9_payPremiums.cls ≠ "java/lang/invoke/MethodHandle" ∧ yX9_payPremiums.cls ≠ "java/lang/invoke/VarHandle" ∧ (parseMethodDescriptor yX9_payPremiums.desc).map (fun d => d.parameters.length) = some 1 := ⟨rfl, by decide +kernel, by decide +kernel, by decide +kernel⟩
theorem yk_X9_lookAt : yX9_lookAt.cls = RX9 ∧ yX9_lookAt.cls ≠ "java/lang/invoke/MethodHandle" ∧ yX9_lookAt.cls ≠ "java/lang/invoke/VarHandle" ∧ (parseMethodDescriptor yX9_lookAt.desc).map (fun d => d.parameters.length) = some 3 := ⟨rfl, by decide +kernel, by decide +kernel, by decide +kernel⟩
theorem yk_X9_endMatch : yX9_endMatch.cls = RX9 ∧ yX9_endMatch.cls ≠ "java/lang/invoke/MethodHandle" ∧ yX9_endMatch.cls ≠ "java/lang/invoke/VarHandle" ∧ (parseMethodDescriptor yX9_endMatch.desc).map (fun d => d.parameters.length) = some 1 := ⟨rfl, by decide +kernel, by decide +kernel, by decide +kernel⟩
theorem yk_X9_payClaim : yX9_payClaim.cls = RX9 ∧ yX9_payClaim.cls ≠ "java/lang/invoke/MethodHandle" ∧ yX9_payClaim.cls ≠ "java/lang/invoke/VarHandle" ∧ (parseMethodDescriptor yX9_payClaim.desc).map (fun d => d.parameters.length) = some 1 := ⟨rfl, by decide +kernel, by decide +kernel, by decide +kernel⟩
theorem yk_X9_addToLog : yX9_addToLog.cls = RX9 ∧ yX9_addToLog.cls ≠ "java/lang/invoke/MethodHandle" ∧ yX9_addToLog.cls ≠ "java/lang/invoke/VarHandle" ∧ (parseMethodDescriptor yX9_addToLog.desc).map (fun d => d.parameters.length) = some 3 := ⟨rfl, by decide +kernel, by decide +kernel, by decide +kernel⟩
theorem yk_X9_passMatch : yX9_passMatch.cls = RX9 ∧ yX9_passMatch.cls ≠ "java/lang/invoke/MethodHandle" ∧ yX9_passMatch.cls ≠ "java/lang/invoke/VarHandle" ∧ (parseMethodDescriptor yX9_passMatch.desc).map (fun d => d.parameters.length) = some 3 := ⟨rfl, by decide +kernel, by decide +kernel, by decide +kernel⟩
theorem yk_X4_happyBehindMonth : yX4_happyBehindMonth.cls = RX4 ∧ yX4_happyBehindMonth.cls ≠ "java/lang/invoke/MethodHandle" ∧ yX4_happyBehindMonth.cls ≠ "java/lang/invoke/VarHandle" ∧ (parseMethodDescriptor yX4_happyBehindMonth.desc).map (fun d => d.parameters.length) = some 1 := ⟨rfl, by decide +kernel, by decide +kernel, by decide +kernel⟩
theorem yk_X4_passTime : yX4_passTime.cls = RX4 ∧ yX4_passTime.cls ≠ "java/lang/invoke/MethodHandle" ∧ yX4_passTime.cls ≠ "java/lang/invoke/VarHandle" ∧ (parseMethodDescriptor yX4_passTime.desc).map (fun d => d.parameters.length) = some 0 := ⟨rfl, by decide +kernel, by decide +kernel, by decide +kernel⟩
theorem yk_X6_putAll : yX6_putAll.cls = RX6 ∧ yX6_putAll.cls ≠ "java/lang/invoke/MethodHandle" ∧ yX6_putAll.cls ≠ "java/lang/invoke/VarHandle" ∧ (parseMethodDescriptor yX6_putAll.desc).map (fun d => d.parameters.length) = some 1 := ⟨rfl, by decide +kernel, by decide +kernel, by decide +kernel⟩
theorem yk_X0_addGifts : yX0_addGifts.cls = RX0 ∧ yX0_addGifts.cls ≠ "java/lang/invoke/MethodHandle" ∧ yX0_addGifts.cls ≠ "java/lang/invoke/VarHandle" ∧ (parseMethodDescriptor yX0_addGifts.desc).map (fun d => d.parameters.length) = some 0 := ⟨rfl, by decide +kernel, by decide +kernel, by decide +kernel⟩
theorem yk_X0_passCosts : yX0_passCosts.cls = RX0 ∧ yX0_passCosts.cls ≠ "java/lang/invoke/MethodHandle" ∧ yX0_passCosts.cls ≠ "java/lang/invoke/VarHandle" ∧ (parseMethodDescriptor yX0_passCosts.desc).map (fun d => d.parameters.length) = some 2 := ⟨rfl, by decide +kernel, by decide +kernel, by decide +kernel⟩
theorem yk_X9_copyAll : yX9_copyAll.cls = RX9 ∧ yX9_copyAll.cls ≠ "java/lang/invoke/MethodHandle" ∧ yX9_copyAll.cls ≠ "java/lang/invoke/VarHandle" ∧ (parseMethodDescriptor yX9_copyAll.desc).map (fun d => d.parameters.length) = some 1 := ⟨rfl, by decide +kernel, by decide +kernel, by decide +kernel⟩
theorem yk_X0_claimAll : yX0_claimAll.cls = RX0 ∧ yX0_claimAll.cls ≠ "java/lang/invoke/MethodHandle" ∧ yX0_claimAll.cls ≠ "java/lang/invoke/VarHandle" ∧ (parseMethodDescriptor yX0_claimAll.desc).map (fun d => d.parameters.length) = some 0 := ⟨rfl, by decide +kernel, by decide +kernel, by decide +kernel⟩
theorem yk_X9_passMonth : yX9_passMonth.cls = RX9 ∧ yX9_passMonth.cls ≠ "java/lang/invoke/MethodHandle" ∧ yX9_passMonth.cls ≠ "java/lang/invoke/VarHandle" ∧ (parseMethodDescriptor yX9_passMonth.desc).map (fun d => d.parameters.length) = some 2 := ⟨rfl, by decide +kernel, by decide +kernel, by decide +kernel⟩
theorem yk_X8_fits : yX8_fits.cls = RX8 ∧ yX8_fits.cls ≠ "java/lang/invoke/MethodHandle" ∧ yX8_fits.cls ≠ "java/lang/invoke/VarHandle" ∧ (parseMethodDescriptor yX8_fits.desc).map (fun d => d.parameters.length) = some 1 := ⟨rfl, by decide +kernel, by decide +kernel, by decide +kernel⟩
theorem yk_X8_addMembers : yX8_addMembers.cls = RX8 ∧ yX8_addMembers.cls ≠ "java/lang/invoke/MethodHandle" ∧ yX8_addMembers.cls ≠ "java/lang/invoke/VarHandle" ∧ (parseMethodDescriptor yX8_addMembers.desc).map (fun d => d.parameters.length) = some 1 := ⟨rfl, by decide +kernel, by decide +kernel, by decide +kernel⟩
theorem yk_X8_fitting : yX8_fitting.cls = RX8 ∧ yX8_fitting.cls ≠ "java/lang/invoke/MethodHandle" ∧ yX8_fitting.cls ≠ "java/lang/invoke/VarHandle" ∧ (parseMethodDescriptor yX8_fitting.desc).map (fun d => d.parameters.length) = some 0 := ⟨rfl, by decide +kernel, by decide +kernel, by decide +kernel⟩
theorem yk_X5_isBetter : yX5_isBetter.cls = RX5 ∧ yX5_isBetter.cls ≠ "java/lang/invoke/MethodHandle" ∧ yX5_isBetter.cls ≠ "java/lang/invoke/VarHandle" ∧ (parseMethodDescriptor yX5_isBetter.desc).map (fun d => d.parameters.length) = some 4 := ⟨rfl, by decide +kernel, by decide +kernel, by decide +kernel⟩
theorem yk_X5_preferred : yX5_preferred.cls = RX5 ∧ yX5_preferred.cls ≠ "java/lang/invoke/MethodHandle" ∧ yX5_preferred.cls ≠ "java/lang/invoke/VarHandle" ∧ (parseMethodDescriptor yX5_preferred.desc).map (fun d => d.parameters.length) = some 2 := ⟨rfl, by decide +kernel, by decide +kernel, by decide +kernel⟩
theorem yk_X5_areLovers : yX5_areLovers.cls = RX5 ∧ yX5_areLovers.cls ≠ "java/lang/invoke/MethodHandle" ∧ yX5_areLovers.cls ≠ "java/lang/invoke/VarHandle" ∧ (parseMethodDescriptor yX5_areLovers.desc).map (fun d => d.parameters.length) = some 3 := ⟨rfl, by decide +kernel, by decide +kernel, by decide +kernel⟩
theorem yk_X5_wouldLeaveFor : yX5_wouldLeaveFor.cls = RX5 ∧ yX5_wouldLeaveFor.cls ≠ "java/lang/invoke/MethodHandle" ∧ yX5_wouldLeaveFor.cls ≠ "java/lang/invoke/VarHandle" ∧ (parseMethodDescriptor yX5_wouldLeaveFor.desc).map (fun d => d.parameters.length) = some 3 := ⟨rfl, by decide +kernel, by decide +kernel, by decide +kernel⟩
theorem yk_X12_isIn : yX12_isIn.cls = RX12 ∧ yX12_isIn.cls ≠ "java/lang/invoke/MethodHandle" ∧ yX12_isIn.cls ≠ "java/lang/invoke/VarHandle" ∧ (parseMethodDescriptor yX12_isIn.desc).map (fun d => d.parameters.length) = some 3 := ⟨rfl, by decide +kernel, by decide +kernel, by decide +kernel⟩
theorem yk_X12_ofMatch : yX12_ofMatch.cls = RX12 ∧ yX12_ofMatch.cls ≠ "java/lang/invoke/MethodHandle" ∧ yX12_ofMatch.cls ≠ "java/lang/invoke/VarHandle" ∧ (parseMethodDescriptor yX12_ofMatch.desc).map (fun d => d.parameters.length) = some 2 := ⟨rfl, by decide +kernel, by decide +kernel, by decide +kernel⟩
theorem yk_X12_of : yX12_of.cls = RX12 ∧ yX12_of.cls ≠ "java/lang/invoke/MethodHandle" ∧ yX12_of.cls ≠ "java/lang/invoke/VarHandle" ∧ (parseMethodDescriptor yX12_of.desc).map (fun d => d.parameters.length) = some 2 := ⟨rfl, by decide +kernel, by decide +kernel, by decide +kernel⟩
theorem yk_X12_isOf : yX12_isOf.cls = RX12 ∧ yX12_isOf.cls ≠ "java/lang/invoke/MethodHandle" ∧ yX12_isOf.cls ≠ "java/lang/invoke/VarHandle" ∧ (parseMethodDescriptor yX12_isOf.desc).map (fun d => d.parameters.length) = some 2 := ⟨rfl, by decide +kernel, by decide +kernel, by decide +kernel⟩
theorem yk_X12_bits : yX12_bits.cls = RX12 ∧ yX12_bits.cls ≠ "java/lang/invoke/MethodHandle" ∧ yX12_bits.cls ≠ "java/lang/invoke/VarHandle" ∧ (parseMethodDescriptor yX12_bits.desc).map (fun d => d.parameters.length) = some 1 := ⟨rfl, by decide +kernel, by decide +kernel, by decide +kernel⟩
theorem yk_X12_insurersOf : yX12_insurersOf.cls = RX12 ∧ yX12_insurersOf.cls ≠ "java/lang/invoke/MethodHandle" ∧ yX12_insurersOf.cls ≠ "java/lang/invoke/VarHandle" ∧ (parseMethodDescriptor yX12_insurersOf.desc).map (fun d => d.parameters.length) = some 2 := ⟨rfl, by decide +kernel, by decide +kernel, by decide +kernel⟩
theorem yk_X12_letter : yX12_letter.cls = RX12 ∧ yX12_letter.cls ≠ "java/lang/invoke/MethodHandle" ∧ yX12_letter.cls ≠ "java/lang/invoke/VarHandle" ∧ (parseMethodDescriptor yX12_letter.desc).map (fun d => d.parameters.length) = some 1 := ⟨rfl, by decide +kernel, by decide +kernel, by decide +kernel⟩
theorem yk_X12_skip : yX12_skip.cls = RX12 ∧ yX12_skip.cls ≠ "java/lang/invoke/MethodHandle" ∧ yX12_skip.cls ≠ "java/lang/invoke/VarHandle" ∧ (parseMethodDescriptor yX12_skip.desc).map (fun d => d.parameters.length) = some 0 := ⟨rfl, by decide +kernel, by decide +kernel, by decide +kernel⟩
theorem yk_X12_place : yX12_place.cls = RX12 ∧ yX12_place.cls ≠ "java/lang/invoke/MethodHandle" ∧ yX12_place.cls ≠ "java/lang/invoke/VarHandle" ∧ (parseMethodDescriptor yX12_place.desc).map (fun d => d.parameters.length) = some 0 := ⟨rfl, by decide +kernel, by decide +kernel, by decide +kernel⟩
theorem yk_X12_wrong : yX12_wrong.cls = RX12 ∧ yX12_wrong.cls ≠ "java/lang/invoke/MethodHandle" ∧ yX12_wrong.cls ≠ "java/lang/invoke/VarHandle" ∧ (parseMethodDescriptor yX12_wrong.desc).map (fun d => d.parameters.length) = some 1 := ⟨rfl, by decide +kernel, by decide +kernel, by decide +kernel⟩
theorem yk_X12_figures : yX12_figures.cls = RX12 ∧ yX12_figures.cls ≠ "java/lang/invoke/MethodHandle" ∧ yX12_figures.cls ≠ "java/lang/invoke/VarHandle" ∧ (parseMethodDescriptor yX12_figures.desc).map (fun d => d.parameters.length) = some 2 := ⟨rfl, by decide +kernel, by decide +kernel, by decide +kernel⟩
theorem yk_X12_who : yX12_who.cls = RX12 ∧ yX12_who.cls ≠ "java/lang/invoke/MethodHandle" ∧ yX12_who.cls ≠ "java/lang/invoke/VarHandle" ∧ (parseMethodDescriptor yX12_who.desc).map (fun d => d.parameters.length) = some 0 := ⟨rfl, by decide +kernel, by decide +kernel, by decide +kernel⟩
theorem yk_X12_wedTo : yX12_wedTo.cls = RX12 ∧ yX12_wedTo.cls ≠ "java/lang/invoke/MethodHandle" ∧ yX12_wedTo.cls ≠ "java/lang/invoke/VarHandle" ∧ (parseMethodDescriptor yX12_wedTo.desc).map (fun d => d.parameters.length) = some 1 := ⟨rfl, by decide +kernel, by decide +kernel, by decide +kernel⟩
theorem yk_X12_told : yX12_told.cls = RX12 ∧ yX12_told.cls ≠ "java/lang/invoke/MethodHandle" ∧ yX12_told.cls ≠ "java/lang/invoke/VarHandle" ∧ (parseMethodDescriptor yX12_told.desc).map (fun d => d.parameters.length) = some 3 := ⟨rfl, by decide +kernel, by decide +kernel, by decide +kernel⟩
theorem yk_X12_has : yX12_has.cls = RX12 ∧ yX12_has.cls ≠ "java/lang/invoke/MethodHandle" ∧ yX12_has.cls ≠ "java/lang/invoke/VarHandle" ∧ (parseMethodDescriptor yX12_has.desc).map (fun d => d.parameters.length) = some 3 := ⟨rfl, by decide +kernel, by decide +kernel, by decide +kernel⟩
theorem yk_X12_lesser : yX12_lesser.cls = RX12 ∧ yX12_lesser.cls ≠ "java/lang/invoke/MethodHandle" ∧ yX12_lesser.cls ≠ "java/lang/invoke/VarHandle" ∧ (parseMethodDescriptor yX12_lesser.desc).map (fun d => d.parameters.length) = some 2 := ⟨rfl, by decide +kernel, by decide +kernel, by decide +kernel⟩
theorem yk_X12_gives : yX12_gives.cls = RX12 ∧ yX12_gives.cls ≠ "java/lang/invoke/MethodHandle" ∧ yX12_gives.cls ≠ "java/lang/invoke/VarHandle" ∧ (parseMethodDescriptor yX12_gives.desc).map (fun d => d.parameters.length) = some 2 := ⟨rfl, by decide +kernel, by decide +kernel, by decide +kernel⟩
theorem yk_X12_gets : yX12_gets.cls = RX12 ∧ yX12_gets.cls ≠ "java/lang/invoke/MethodHandle" ∧ yX12_gets.cls ≠ "java/lang/invoke/VarHandle" ∧ (parseMethodDescriptor yX12_gets.desc).map (fun d => d.parameters.length) = some 2 := ⟨rfl, by decide +kernel, by decide +kernel, by decide +kernel⟩
theorem yk_X12_insurers : yX12_insurers.cls = RX12 ∧ yX12_insurers.cls ≠ "java/lang/invoke/MethodHandle" ∧ yX12_insurers.cls ≠ "java/lang/invoke/VarHandle" ∧ (parseMethodDescriptor yX12_insurers.desc).map (fun d => d.parameters.length) = some 1 := ⟨rfl, by decide +kernel, by decide +kernel, by decide +kernel⟩
theorem yk_X12_pays : yX12_pays.cls = RX12 ∧ yX12_pays.cls ≠ "java/lang/invoke/MethodHandle" ∧ yX12_pays.cls ≠ "java/lang/invoke/VarHandle" ∧ (parseMethodDescriptor yX12_pays.desc).map (fun d => d.parameters.length) = some 2 := ⟨rfl, by decide +kernel, by decide +kernel, by decide +kernel⟩
theorem yk_X12_isPerson : yX12_isPerson.cls = RX12 ∧ yX12_isPerson.cls ≠ "java/lang/invoke/MethodHandle" ∧ yX12_isPerson.cls ≠ "java/lang/invoke/VarHandle" ∧ (parseMethodDescriptor yX12_isPerson.desc).map (fun d => d.parameters.length) = some 1 := ⟨rfl, by decide +kernel, by decide +kernel, by decide +kernel⟩
theorem yk_X12_two : yX12_two.cls = RX12 ∧ yX12_two.cls ≠ "java/lang/invoke/MethodHandle" ∧ yX12_two.cls ≠ "java/lang/invoke/VarHandle" ∧ (parseMethodDescriptor yX12_two.desc).map (fun d => d.parameters.length) = some 2 := ⟨rfl, by decide +kernel, by decide +kernel, by decide +kernel⟩
theorem yk_X12_likes : yX12_likes.cls = RX12 ∧ yX12_likes.cls ≠ "java/lang/invoke/MethodHandle" ∧ yX12_likes.cls ≠ "java/lang/invoke/VarHandle" ∧ (parseMethodDescriptor yX12_likes.desc).map (fun d => d.parameters.length) = some 2 := ⟨rfl, by decide +kernel, by decide +kernel, by decide +kernel⟩
theorem yk_X12_remembers : yX12_remembers.cls = RX12 ∧ yX12_remembers.cls ≠ "java/lang/invoke/MethodHandle" ∧ yX12_remembers.cls ≠ "java/lang/invoke/VarHandle" ∧ (parseMethodDescriptor yX12_remembers.desc).map (fun d => d.parameters.length) = some 0 := ⟨rfl, by decide +kernel, by decide +kernel, by decide +kernel⟩
theorem yk_X12_comes : yX12_comes.cls = RX12 ∧ yX12_comes.cls ≠ "java/lang/invoke/MethodHandle" ∧ yX12_comes.cls ≠ "java/lang/invoke/VarHandle" ∧ (parseMethodDescriptor yX12_comes.desc).map (fun d => d.parameters.length) = some 3 := ⟨rfl, by decide +kernel, by decide +kernel, by decide +kernel⟩
theorem yk_X12_isMatch : yX12_isMatch.cls = RX12 ∧ yX12_isMatch.cls ≠ "java/lang/invoke/MethodHandle" ∧ yX12_isMatch.cls ≠ "java/lang/invoke/VarHandle" ∧ (parseMethodDescriptor yX12_isMatch.desc).map (fun d => d.parameters.length) = some 1 := ⟨rfl, by decide +kernel, by decide +kernel, by decide +kernel⟩
theorem yk_X12_insures : yX12_insures.cls = RX12 ∧ yX12_insures.cls ≠ "java/lang/invoke/MethodHandle" ∧ yX12_insures.cls ≠ "java/lang/invoke/VarHandle" ∧ (parseMethodDescriptor yX12_insures.desc).map (fun d => d.parameters.length) = some 2 := ⟨rfl, by decide +kernel, by decide +kernel, by decide +kernel⟩
theorem yk_X12_greater : yX12_greater.cls = RX12 ∧ yX12_greater.cls ≠ "java/lang/invoke/MethodHandle" ∧ yX12_greater.cls ≠ "java/lang/invoke/VarHandle" ∧ (parseMethodDescriptor yX12_greater.desc).map (fun d => d.parameters.length) = some 2 := ⟨rfl, by decide +kernel, by decide +kernel, by decide +kernel⟩
theorem yk_X12_claims : yX12_claims.cls = RX12 ∧ yX12_claims.cls ≠ "java/lang/invoke/MethodHandle" ∧ yX12_claims.cls ≠ "java/lang/invoke/VarHandle" ∧ (parseMethodDescriptor yX12_claims.desc).map (fun d => d.parameters.length) = some 1 := ⟨rfl, by decide +kernel, by decide +kernel, by decide +kernel⟩
theorem yk_X12_putsAside : yX12_putsAside.cls = RX12 ∧ yX12_putsAside.cls ≠ "java/lang/invoke/MethodHandle" ∧ yX12_putsAside.cls ≠ "java/lang/invoke/VarHandle" ∧ (parseMethodDescriptor yX12_putsAside.desc).map (fun d => d.parameters.length) = some 0 := ⟨rfl, by decide +kernel, by decide +kernel, by decide +kernel⟩
theorem yk_X12_fallsNow : yX12_fallsNow.cls = RX12 ∧ yX12_fallsNow.cls ≠ "java/lang/invoke/MethodHandle" ∧ yX12_fallsNow.cls ≠ "java/lang/invoke/VarHandle" ∧ (parseMethodDescriptor yX12_fallsNow.desc).map (fun d => d.parameters.length) = some 0 := ⟨rfl, by decide +kernel, by decide +kernel, by decide +kernel⟩
theorem yk_X12_comesBack : yX12_comesBack.cls = RX12 ∧ yX12_comesBack.cls ≠ "java/lang/invoke/MethodHandle" ∧ yX12_comesBack.cls ≠ "java/lang/invoke/VarHandle" ∧ (parseMethodDescriptor yX12_comesBack.desc).map (fun d => d.parameters.length) = some 0 := ⟨rfl, by decide +kernel, by decide +kernel, by decide +kernel⟩
theorem yk_X12_ringOf : yX12_ringOf.cls = RX12 ∧ yX12_ringOf.cls ≠ "java/lang/invoke/MethodHandle" ∧ yX12_ringOf.cls ≠ "java/lang/invoke/VarHandle" ∧ (parseMethodDescriptor yX12_ringOf.desc).map (fun d => d.parameters.length) = some 1 := ⟨rfl, by decide +kernel, by decide +kernel, by decide +kernel⟩
theorem yk_X12_leads : yX12_leads.cls = RX12 ∧ yX12_leads.cls ≠ "java/lang/invoke/MethodHandle" ∧ yX12_leads.cls ≠ "java/lang/invoke/VarHandle" ∧ (parseMethodDescriptor yX12_leads.desc).map (fun d => d.parameters.length) = some 2 := ⟨rfl, by decide +kernel, by decide +kernel, by decide +kernel⟩
theorem yk_X12_ratherOf : yX12_ratherOf.cls = RX12 ∧ yX12_ratherOf.cls ≠ "java/lang/invoke/MethodHandle" ∧ yX12_ratherOf.cls ≠ "java/lang/invoke/VarHandle" ∧ (parseMethodDescriptor yX12_ratherOf.desc).map (fun d => d.parameters.length) = some 1 := ⟨rfl, by decide +kernel, by decide +kernel, by decide +kernel⟩
theorem yk_X12_prefers : yX12_prefers.cls = RX12 ∧ yX12_prefers.cls ≠ "java/lang/invoke/MethodHandle" ∧ yX12_prefers.cls ≠ "java/lang/invoke/VarHandle" ∧ (parseMethodDescriptor yX12_prefers.desc).map (fun d => d.parameters.length) = some 2 := ⟨rfl, by decide +kernel, by decide +kernel, by decide +kernel⟩
theorem yk_X12_mayWed : yX12_mayWed.cls = RX12 ∧ yX12_mayWed.cls ≠ "java/lang/invoke/MethodHandle" ∧ yX12_mayWed.cls ≠ "java/lang/invoke/VarHandle" ∧ (parseMethodDescriptor yX12_mayWed.desc).map (fun d => d.parameters.length) = some 2 := ⟨rfl, by decide +kernel, by decide +kernel, by decide +kernel⟩
theorem yk_X12_told_ : yX12_told_.cls = RX12 ∧ yX12_told_.cls ≠ "java/lang/invoke/MethodHandle" ∧ yX12_told_.cls ≠ "java/lang/invoke/VarHandle" ∧ (parseMethodDescriptor yX12_told_.desc).map (fun d => d.parameters.length) = some 0 := ⟨rfl, by decide +kernel, by decide +kernel, by decide +kernel⟩
theorem yk_X12_with : yX12_with.cls = RX12 ∧ yX12_with.cls ≠ "java/lang/invoke/MethodHandle" ∧ yX12_with.cls ≠ "java/lang/invoke/VarHandle" ∧ (parseMethodDescriptor yX12_with.desc).map (fun d => d.parameters.length) = some 1 := ⟨rfl, by decide +kernel, by decide +kernel, by decide +kernel⟩
theorem yk_X12_logged : yX12_logged.cls = RX12 ∧ yX12_logged.cls ≠ "java/lang/invoke/MethodHandle" ∧ yX12_logged.cls ≠ "java/lang/invoke/VarHandle" ∧ (parseMethodDescriptor yX12_logged.desc).map (fun d => d.parameters.length) = some 2 := ⟨rfl, by decide +kernel, by decide +kernel, by decide +kernel⟩
theorem yk_X12_wedOnes : yX12_wedOnes.cls = RX12 ∧ yX12_wedOnes.cls ≠ "java/lang/invoke/MethodHandle" ∧ yX12_wedOnes.cls ≠ "java/lang/invoke/VarHandle" ∧ (parseMethodDescriptor yX12_wedOnes.desc).map (fun d => d.parameters.length) = some 0 := ⟨rfl, by decide +kernel, by decide +kernel, by decide +kernel⟩
theorem yk_X12_ruinedOnes : yX12_ruinedOnes.cls = RX12 ∧ yX12_ruinedOnes.cls ≠ "java/lang/invoke/MethodHandle" ∧ yX12_ruinedOnes.cls ≠ "java/lang/invoke/VarHandle" ∧ (parseMethodDescriptor yX12_ruinedOnes.desc).map (fun d => d.parameters.length) = some 0 := ⟨rfl, by decide +kernel, by decide +kernel, by decide +kernel⟩
theorem yk_X12_wealths : yX12_wealths.cls = RX12 ∧ yX12_wealths.cls ≠ "java/lang/invoke/MethodHandle" ∧ yX12_wealths.cls ≠ "java/lang/invoke/VarHandle" ∧ (parseMethodDescriptor yX12_wealths.desc).map (fun d => d.parameters.length) = some 0 := ⟨rfl, by decide +kernel, by decide +kernel, by decide +kernel⟩
theorem yk_X12_askersOf : yX12_askersOf.cls = RX12 ∧ yX12_askersOf.cls ≠ "java/lang/invoke/MethodHandle" ∧ yX12_askersOf.cls ≠ "java/lang/invoke/VarHandle" ∧ (parseMethodDescriptor yX12_askersOf.desc).map (fun d => d.parameters.length) = some 1 := ⟨rfl, by decide +kernel, by decide +kernel, by decide +kernel⟩
theorem yk_X2_isPart : yX2_isPart.cls = RX2 ∧ yX2_isPart.cls ≠ "java/lang/invoke/MethodHandle" ∧ yX2_isPart.cls ≠ "java/lang/invoke/VarHandle" ∧ (parseMethodDescriptor yX2_isPart.desc).map (fun d => d.parameters.length) = some 1 := ⟨rfl, by decide +kernel, by decide +kernel, by decide +kernel⟩
theorem yk_X2_addCode : yX2_addCode.cls = RX2 ∧ yX2_addCode.cls ≠ "java/lang/invoke/MethodHandle" ∧ yX2_addCode.cls ≠ "java/lang/invoke/VarHandle" ∧ (parseMethodDescriptor yX2_addCode.desc).map (fun d => d.parameters.length) = some 1 := ⟨rfl, by decide +kernel, by decide +kernel, by decide +kernel⟩
theorem yk_X3_readsAtom : yX3_readsAtom.cls = RX3 ∧ yX3_readsAtom.cls ≠ "java/lang/invoke/MethodHandle" ∧ yX3_readsAtom.cls ≠ "java/lang/invoke/VarHandle" ∧ (parseMethodDescriptor yX3_readsAtom.desc).map (fun d => d.parameters.length) = some 1 := ⟨rfl, by decide +kernel, by decide +kernel, by decide +kernel⟩
theorem yk_X7_takes : yX7_takes.cls = RX7 ∧ yX7_takes.cls ≠ "java/lang/invoke/MethodHandle" ∧ yX7_takes.cls ≠ "java/lang/invoke/VarHandle" ∧ (parseMethodDescriptor yX7_takes.desc).map (fun d => d.parameters.length) = some 1 := ⟨rfl, by decide +kernel, by decide +kernel, by decide +kernel⟩
theorem ykx_X7_takes : ("RivalWeds$Text" : String) ≠ "java/lang/invoke/MethodHandle" ∧ ("RivalWeds$Text" : String) ≠ "java/lang/invoke/VarHandle" ∧ (parseMethodDescriptor yX7_takes.desc).map (fun d => d.parameters.length) = some 1 := ⟨by decide +kernel, by decide +kernel, by decide +kernel⟩
theorem yk_X3_readsAll : yX3_readsAll.cls = RX3 ∧ yX3_readsAll.cls ≠ "java/lang/invoke/MethodHandle" ∧ yX3_readsAll.cls ≠ "java/lang/invoke/VarHandle" ∧ (parseMethodDescriptor yX3_readsAll.desc).map (fun d => d.parameters.length) = some 1 := ⟨rfl, by decide +kernel, by decide +kernel, by decide +kernel⟩
theorem yk_X3_readsSum : yX3_readsSum.cls = RX3 ∧ yX3_readsSum.cls ≠ "java/lang/invoke/MethodHandle" ∧ yX3_readsSum.cls ≠ "java/lang/invoke/VarHandle" ∧ (parseMethodDescriptor yX3_readsSum.desc).map (fun d => d.parameters.length) = some 0 := ⟨rfl, by decide +kernel, by decide +kernel, by decide +kernel⟩
theorem yk_X3_readsNot : yX3_readsNot.cls = RX3 ∧ yX3_readsNot.cls ≠ "java/lang/invoke/MethodHandle" ∧ yX3_readsNot.cls ≠ "java/lang/invoke/VarHandle" ∧ (parseMethodDescriptor yX3_readsNot.desc).map (fun d => d.parameters.length) = some 1 := ⟨rfl, by decide +kernel, by decide +kernel, by decide +kernel⟩
theorem yk_X3_readsEither : yX3_readsEither.cls = RX3 ∧ yX3_readsEither.cls ≠ "java/lang/invoke/MethodHandle" ∧ yX3_readsEither.cls ≠ "java/lang/invoke/VarHandle" ∧ (parseMethodDescriptor yX3_readsEither.desc).map (fun d => d.parameters.length) = some 1 := ⟨rfl, by decide +kernel, by decide +kernel, by decide +kernel⟩
theorem yk_X2_addLine : yX2_addLine.cls = RX2 ∧ yX2_addLine.cls ≠ "java/lang/invoke/MethodHandle" ∧ yX2_addLine.cls ≠ "java/lang/invoke/VarHandle" ∧ (parseMethodDescriptor yX2_addLine.desc).map (fun d => d.parameters.length) = some 1 := ⟨rfl, by decide +kernel, by decide +kernel, by decide +kernel⟩
theorem yk_X3_readsLine : yX3_readsLine.cls = RX3 ∧ yX3_readsLine.cls ≠ "java/lang/invoke/MethodHandle" ∧ yX3_readsLine.cls ≠ "java/lang/invoke/VarHandle" ∧ (parseMethodDescriptor yX3_readsLine.desc).map (fun d => d.parameters.length) = some 0 := ⟨rfl, by decide +kernel, by decide +kernel, by decide +kernel⟩
theorem ykx_X3_readsLine : ("RivalWeds$Text" : String) ≠ "java/lang/invoke/MethodHandle" ∧ ("RivalWeds$Text" : String) ≠ "java/lang/invoke/VarHandle" ∧ (parseMethodDescriptor yX3_readsLine.desc).map (fun d => d.parameters.length) = some 0 := ⟨by decide +kernel, by decide +kernel, by decide +kernel⟩
theorem yk_X5_pairUp : yX5_pairUp.cls = RX5 ∧ yX5_pairUp.cls ≠ "java/lang/invoke/MethodHandle" ∧ yX5_pairUp.cls ≠ "java/lang/invoke/VarHandle" ∧ (parseMethodDescriptor yX5_pairUp.desc).map (fun d => d.parameters.length) = some 3 := ⟨rfl, by decide +kernel, by decide +kernel, by decide +kernel⟩
theorem yk_X5_firstWithout : yX5_firstWithout.cls = RX5 ∧ yX5_firstWithout.cls ≠ "java/lang/invoke/MethodHandle" ∧ yX5_firstWithout.cls ≠ "java/lang/invoke/VarHandle" ∧ (parseMethodDescriptor yX5_firstWithout.desc).map (fun d => d.parameters.length) = some 1 := ⟨rfl, by decide +kernel, by decide +kernel, by decide +kernel⟩
theorem yk_X5_tryPair : yX5_tryPair.cls = RX5 ∧ yX5_tryPair.cls ≠ "java/lang/invoke/MethodHandle" ∧ yX5_tryPair.cls ≠ "java/lang/invoke/VarHandle" ∧ (parseMethodDescriptor yX5_tryPair.desc).map (fun d => d.parameters.length) = some 5 := ⟨rfl, by decide +kernel, by decide +kernel, by decide +kernel⟩
theorem yk_X5_countIfSteady : yX5_countIfSteady.cls = RX5 ∧ yX5_countIfSteady.cls ≠ "java/lang/invoke/MethodHandle" ∧ yX5_countIfSteady.cls ≠ "java/lang/invoke/VarHandle" ∧ (parseMethodDescriptor yX5_countIfSteady.desc).map (fun d => d.parameters.length) = some 1 := ⟨rfl, by decide +kernel, by decide +kernel, by decide +kernel⟩
theorem yk_X5_mostPairs : yX5_mostPairs.cls = RX5 ∧ yX5_mostPairs.cls ≠ "java/lang/invoke/MethodHandle" ∧ yX5_mostPairs.cls ≠ "java/lang/invoke/VarHandle" ∧ (parseMethodDescriptor yX5_mostPairs.desc).map (fun d => d.parameters.length) = some 3 := ⟨rfl, by decide +kernel, by decide +kernel, by decide +kernel⟩
theorem yk_X9_askersOf : yX9_askersOf.cls = RX9 ∧ yX9_askersOf.cls ≠ "java/lang/invoke/MethodHandle" ∧ yX9_askersOf.cls ≠ "java/lang/invoke/VarHandle" ∧ (parseMethodDescriptor yX9_askersOf.desc).map (fun d => d.parameters.length) = some 1 := ⟨rfl, by decide +kernel, by decide +kernel, by decide +kernel⟩
theorem yk_X5_steadyWays : yX5_steadyWays.cls = RX5 ∧ yX5_steadyWays.cls ≠ "java/lang/invoke/MethodHandle" ∧ yX5_steadyWays.cls ≠ "java/lang/invoke/VarHandle" ∧ (parseMethodDescriptor yX5_steadyWays.desc).map (fun d => d.parameters.length) = some 1 := ⟨rfl, by decide +kernel, by decide +kernel, by decide +kernel⟩
theorem yk_X12_says : yX12_says.cls = RX12 ∧ yX12_says.cls ≠ "java/lang/invoke/MethodHandle" ∧ yX12_says.cls ≠ "java/lang/invoke/VarHandle" ∧ (parseMethodDescriptor yX12_says.desc).map (fun d => d.parameters.length) = some 1 := ⟨rfl, by decide +kernel, by decide +kernel, by decide +kernel⟩
theorem yk_X12_free : yX12_free.cls = RX12 ∧ yX12_free.cls ≠ "java/lang/invoke/MethodHandle" ∧ yX12_free.cls ≠ "java/lang/invoke/VarHandle" ∧ (parseMethodDescriptor yX12_free.desc).map (fun d => d.parameters.length) = some 2 := ⟨rfl, by decide +kernel, by decide +kernel, by decide +kernel⟩
theorem yk_X12_other : yX12_other.cls = RX12 ∧ yX12_other.cls ≠ "java/lang/invoke/MethodHandle" ∧ yX12_other.cls ≠ "java/lang/invoke/VarHandle" ∧ (parseMethodDescriptor yX12_other.desc).map (fun d => d.parameters.length) = some 1 := ⟨rfl, by decide +kernel, by decide +kernel, by decide +kernel⟩
theorem yk_X12_after : yX12_after.cls = RX12 ∧ yX12_after.cls ≠ "java/lang/invoke/MethodHandle" ∧ yX12_after.cls ≠ "java/lang/invoke/VarHandle" ∧ (parseMethodDescriptor yX12_after.desc).map (fun d => d.parameters.length) = some 3 := ⟨rfl, by decide +kernel, by decide +kernel, by decide +kernel⟩
theorem yk_X12_tells : yX12_tells.cls = RX12 ∧ yX12_tells.cls ≠ "java/lang/invoke/MethodHandle" ∧ yX12_tells.cls ≠ "java/lang/invoke/VarHandle" ∧ (parseMethodDescriptor yX12_tells.desc).map (fun d => d.parameters.length) = some 2 := ⟨rfl, by decide +kernel, by decide +kernel, by decide +kernel⟩
theorem yk_X12_wedLine : yX12_wedLine.cls = RX12 ∧ yX12_wedLine.cls ≠ "java/lang/invoke/MethodHandle" ∧ yX12_wedLine.cls ≠ "java/lang/invoke/VarHandle" ∧ (parseMethodDescriptor yX12_wedLine.desc).map (fun d => d.parameters.length) = some 1 := ⟨rfl, by decide +kernel, by decide +kernel, by decide +kernel⟩
theorem yk_X12_likings : yX12_likings.cls = RX12 ∧ yX12_likings.cls ≠ "java/lang/invoke/MethodHandle" ∧ yX12_likings.cls ≠ "java/lang/invoke/VarHandle" ∧ (parseMethodDescriptor yX12_likings.desc).map (fun d => d.parameters.length) = some 0 := ⟨rfl, by decide +kernel, by decide +kernel, by decide +kernel⟩
theorem yk_X12_personLine : yX12_personLine.cls = RX12 ∧ yX12_personLine.cls ≠ "java/lang/invoke/MethodHandle" ∧ yX12_personLine.cls ≠ "java/lang/invoke/VarHandle" ∧ (parseMethodDescriptor yX12_personLine.desc).map (fun d => d.parameters.length) = some 1 := ⟨rfl, by decide +kernel, by decide +kernel, by decide +kernel⟩
theorem yk_X12_part : yX12_part.cls = RX12 ∧ yX12_part.cls ≠ "java/lang/invoke/MethodHandle" ∧ yX12_part.cls ≠ "java/lang/invoke/VarHandle" ∧ (parseMethodDescriptor yX12_part.desc).map (fun d => d.parameters.length) = some 0 := ⟨rfl, by decide +kernel, by decide +kernel, by decide +kernel⟩
theorem yk_X12_isSign : yX12_isSign.cls = RX12 ∧ yX12_isSign.cls ≠ "java/lang/invoke/MethodHandle" ∧ yX12_isSign.cls ≠ "java/lang/invoke/VarHandle" ∧ (parseMethodDescriptor yX12_isSign.desc).map (fun d => d.parameters.length) = some 1 := ⟨rfl, by decide +kernel, by decide +kernel, by decide +kernel⟩
theorem yk_X12_sum : yX12_sum.cls = RX12 ∧ yX12_sum.cls ≠ "java/lang/invoke/MethodHandle" ∧ yX12_sum.cls ≠ "java/lang/invoke/VarHandle" ∧ (parseMethodDescriptor yX12_sum.desc).map (fun d => d.parameters.length) = some 0 := ⟨rfl, by decide +kernel, by decide +kernel, by decide +kernel⟩
theorem yk_X12_atom : yX12_atom.cls = RX12 ∧ yX12_atom.cls ≠ "java/lang/invoke/MethodHandle" ∧ yX12_atom.cls ≠ "java/lang/invoke/VarHandle" ∧ (parseMethodDescriptor yX12_atom.desc).map (fun d => d.parameters.length) = some 0 := ⟨rfl, by decide +kernel, by decide +kernel, by decide +kernel⟩
theorem yk_X12_every : yX12_every.cls = RX12 ∧ yX12_every.cls ≠ "java/lang/invoke/MethodHandle" ∧ yX12_every.cls ≠ "java/lang/invoke/VarHandle" ∧ (parseMethodDescriptor yX12_every.desc).map (fun d => d.parameters.length) = some 0 := ⟨rfl, by decide +kernel, by decide +kernel, by decide +kernel⟩
theorem yk_X12_some : yX12_some.cls = RX12 ∧ yX12_some.cls ≠ "java/lang/invoke/MethodHandle" ∧ yX12_some.cls ≠ "java/lang/invoke/VarHandle" ∧ (parseMethodDescriptor yX12_some.desc).map (fun d => d.parameters.length) = some 0 := ⟨rfl, by decide +kernel, by decide +kernel, by decide +kernel⟩
theorem yk_X12_plain : yX12_plain.cls = RX12 ∧ yX12_plain.cls ≠ "java/lang/invoke/MethodHandle" ∧ yX12_plain.cls ≠ "java/lang/invoke/VarHandle" ∧ (parseMethodDescriptor yX12_plain.desc).map (fun d => d.parameters.length) = some 0 := ⟨rfl, by decide +kernel, by decide +kernel, by decide +kernel⟩
theorem yk_X12_townLine : yX12_townLine.cls = RX12 ∧ yX12_townLine.cls ≠ "java/lang/invoke/MethodHandle" ∧ yX12_townLine.cls ≠ "java/lang/invoke/VarHandle" ∧ (parseMethodDescriptor yX12_townLine.desc).map (fun d => d.parameters.length) = some 0 := ⟨rfl, by decide +kernel, by decide +kernel, by decide +kernel⟩
theorem yk_X12_lawLine : yX12_lawLine.cls = RX12 ∧ yX12_lawLine.cls ≠ "java/lang/invoke/MethodHandle" ∧ yX12_lawLine.cls ≠ "java/lang/invoke/VarHandle" ∧ (parseMethodDescriptor yX12_lawLine.desc).map (fun d => d.parameters.length) = some 0 := ⟨rfl, by decide +kernel, by decide +kernel, by decide +kernel⟩
theorem yk_X12_begins : yX12_begins.cls = RX12 ∧ yX12_begins.cls ≠ "java/lang/invoke/MethodHandle" ∧ yX12_begins.cls ≠ "java/lang/invoke/VarHandle" ∧ (parseMethodDescriptor yX12_begins.desc).map (fun d => d.parameters.length) = some 0 := ⟨rfl, by decide +kernel, by decide +kernel, by decide +kernel⟩
theorem yk_X12_read : yX12_read.cls = RX12 ∧ yX12_read.cls ≠ "java/lang/invoke/MethodHandle" ∧ yX12_read.cls ≠ "java/lang/invoke/VarHandle" ∧ (parseMethodDescriptor yX12_read.desc).map (fun d => d.parameters.length) = some 1 := ⟨rfl, by decide +kernel, by decide +kernel, by decide +kernel⟩
theorem yk_X12_turnsBy : yX12_turnsBy.cls = RX12 ∧ yX12_turnsBy.cls ≠ "java/lang/invoke/MethodHandle" ∧ yX12_turnsBy.cls ≠ "java/lang/invoke/VarHandle" ∧ (parseMethodDescriptor yX12_turnsBy.desc).map (fun d => d.parameters.length) = some 2 := ⟨rfl, by decide +kernel, by decide +kernel, by decide +kernel⟩
theorem yk_X12_draw : yX12_draw.cls = RX12 ∧ yX12_draw.cls ≠ "java/lang/invoke/MethodHandle" ∧ yX12_draw.cls ≠ "java/lang/invoke/VarHandle" ∧ (parseMethodDescriptor yX12_draw.desc).map (fun d => d.parameters.length) = some 1 := ⟨rfl, by decide +kernel, by decide +kernel, by decide +kernel⟩
theorem yk_X12_premiums : yX12_premiums.cls = RX12 ∧ yX12_premiums.cls ≠ "java/lang/invoke/MethodHandle" ∧ yX12_premiums.cls ≠ "java/lang/invoke/VarHandle" ∧ (parseMethodDescriptor yX12_premiums.desc).map (fun d => d.parameters.length) = some 1 := ⟨rfl, by decide +kernel, by decide +kernel, by decide +kernel⟩
theorem yk_X12_nextOf : yX12_nextOf.cls = RX12 ∧ yX12_nextOf.cls ≠ "java/lang/invoke/MethodHandle" ∧ yX12_nextOf.cls ≠ "java/lang/invoke/VarHandle" ∧ (parseMethodDescriptor yX12_nextOf.desc).map (fun d => d.parameters.length) = some 2 := ⟨rfl, by decide +kernel, by decide +kernel, by decide +kernel⟩
theorem yk_X12_logs : yX12_logs.cls = RX12 ∧ yX12_logs.cls ≠ "java/lang/invoke/MethodHandle" ∧ yX12_logs.cls ≠ "java/lang/invoke/VarHandle" ∧ (parseMethodDescriptor yX12_logs.desc).map (fun d => d.parameters.length) = some 3 := ⟨rfl, by decide +kernel, by decide +kernel, by decide +kernel⟩
theorem yk_X12_goes : yX12_goes.cls = RX12 ∧ yX12_goes.cls ≠ "java/lang/invoke/MethodHandle" ∧ yX12_goes.cls ≠ "java/lang/invoke/VarHandle" ∧ (parseMethodDescriptor yX12_goes.desc).map (fun d => d.parameters.length) = some 1 := ⟨rfl, by decide +kernel, by decide +kernel, by decide +kernel⟩
theorem yk_X12_badMatch : yX12_badMatch.cls = RX12 ∧ yX12_badMatch.cls ≠ "java/lang/invoke/MethodHandle" ∧ yX12_badMatch.cls ≠ "java/lang/invoke/VarHandle" ∧ (parseMethodDescriptor yX12_badMatch.desc).map (fun d => d.parameters.length) = some 4 := ⟨rfl, by decide +kernel, by decide +kernel, by decide +kernel⟩
theorem yk_X12_passes : yX12_passes.cls = RX12 ∧ yX12_passes.cls ≠ "java/lang/invoke/MethodHandle" ∧ yX12_passes.cls ≠ "java/lang/invoke/VarHandle" ∧ (parseMethodDescriptor yX12_passes.desc).map (fun d => d.parameters.length) = some 2 := ⟨rfl, by decide +kernel, by decide +kernel, by decide +kernel⟩
theorem yk_X12_by : yX12_by.cls = RX12 ∧ yX12_by.cls ≠ "java/lang/invoke/MethodHandle" ∧ yX12_by.cls ≠ "java/lang/invoke/VarHandle" ∧ (parseMethodDescriptor yX12_by.desc).map (fun d => d.parameters.length) = some 3 := ⟨rfl, by decide +kernel, by decide +kernel, by decide +kernel⟩
theorem yk_X12_fewest : yX12_fewest.cls = RX12 ∧ yX12_fewest.cls ≠ "java/lang/invoke/MethodHandle" ∧ yX12_fewest.cls ≠ "java/lang/invoke/VarHandle" ∧ (parseMethodDescriptor yX12_fewest.desc).map (fun d => d.parameters.length) = some 2 := ⟨rfl, by decide +kernel, by decide +kernel, by decide +kernel⟩
theorem yk_X12_ofAside : yX12_ofAside.cls = RX12 ∧ yX12_ofAside.cls ≠ "java/lang/invoke/MethodHandle" ∧ yX12_ofAside.cls ≠ "java/lang/invoke/VarHandle" ∧ (parseMethodDescriptor yX12_ofAside.desc).map (fun d => d.parameters.length) = some 1 := ⟨rfl, by decide +kernel, by decide +kernel, by decide +kernel⟩
theorem yk_X12_pairsUp : yX12_pairsUp.cls = RX12 ∧ yX12_pairsUp.cls ≠ "java/lang/invoke/MethodHandle" ∧ yX12_pairsUp.cls ≠ "java/lang/invoke/VarHandle" ∧ (parseMethodDescriptor yX12_pairsUp.desc).map (fun d => d.parameters.length) = some 1 := ⟨rfl, by decide +kernel, by decide +kernel, by decide +kernel⟩
theorem yk_X12_isSteady : yX12_isSteady.cls = RX12 ∧ yX12_isSteady.cls ≠ "java/lang/invoke/MethodHandle" ∧ yX12_isSteady.cls ≠ "java/lang/invoke/VarHandle" ∧ (parseMethodDescriptor yX12_isSteady.desc).map (fun d => d.parameters.length) = some 0 := ⟨rfl, by decide +kernel, by decide +kernel, by decide +kernel⟩
theorem yk_X11_feedNumber : yX11_feedNumber.cls = RX11 ∧ yX11_feedNumber.cls ≠ "java/lang/invoke/MethodHandle" ∧ yX11_feedNumber.cls ≠ "java/lang/invoke/VarHandle" ∧ (parseMethodDescriptor yX11_feedNumber.desc).map (fun d => d.parameters.length) = some 1 := ⟨rfl, by decide +kernel, by decide +kernel, by decide +kernel⟩
theorem yk_X11_rememberedTown : yX11_rememberedTown.cls = RX11 ∧ yX11_rememberedTown.cls ≠ "java/lang/invoke/MethodHandle" ∧ yX11_rememberedTown.cls ≠ "java/lang/invoke/VarHandle" ∧ (parseMethodDescriptor yX11_rememberedTown.desc).map (fun d => d.parameters.length) = some 1 := ⟨rfl, by decide +kernel, by decide +kernel, by decide +kernel⟩
theorem yk_X2_copyAll : yX2_copyAll.cls = RX2 ∧ yX2_copyAll.cls ≠ "java/lang/invoke/MethodHandle" ∧ yX2_copyAll.cls ≠ "java/lang/invoke/VarHandle" ∧ (parseMethodDescriptor yX2_copyAll.desc).map (fun d => d.parameters.length) = some 1 := ⟨rfl, by decide +kernel, by decide +kernel, by decide +kernel⟩
theorem yk_X11_forgetActs : yX11_forgetActs.cls = RX11 ∧ yX11_forgetActs.cls ≠ "java/lang/invoke/MethodHandle" ∧ yX11_forgetActs.cls ≠ "java/lang/invoke/VarHandle" ∧ (parseMethodDescriptor yX11_forgetActs.desc).map (fun d => d.parameters.length) = some 0 := ⟨rfl, by decide +kernel, by decide +kernel, by decide +kernel⟩
theorem yk_X9_wedPeople : yX9_wedPeople.cls = RX9 ∧ yX9_wedPeople.cls ≠ "java/lang/invoke/MethodHandle" ∧ yX9_wedPeople.cls ≠ "java/lang/invoke/VarHandle" ∧ (parseMethodDescriptor yX9_wedPeople.desc).map (fun d => d.parameters.length) = some 0 := ⟨rfl, by decide +kernel, by decide +kernel, by decide +kernel⟩
theorem yk_X0_fallen : yX0_fallen.cls = RX0 ∧ yX0_fallen.cls ≠ "java/lang/invoke/MethodHandle" ∧ yX0_fallen.cls ≠ "java/lang/invoke/VarHandle" ∧ (parseMethodDescriptor yX0_fallen.desc).map (fun d => d.parameters.length) = some 1 := ⟨rfl, by decide +kernel, by decide +kernel, by decide +kernel⟩
theorem yk_X9_ringCount : yX9_ringCount.cls = RX9 ∧ yX9_ringCount.cls ≠ "java/lang/invoke/MethodHandle" ∧ yX9_ringCount.cls ≠ "java/lang/invoke/VarHandle" ∧ (parseMethodDescriptor yX9_ringCount.desc).map (fun d => d.parameters.length) = some 0 := ⟨rfl, by decide +kernel, by decide +kernel, by decide +kernel⟩
theorem yk_X5_loverPairs : yX5_loverPairs.cls = RX5 ∧ yX5_loverPairs.cls ≠ "java/lang/invoke/MethodHandle" ∧ yX5_loverPairs.cls ≠ "java/lang/invoke/VarHandle" ∧ (parseMethodDescriptor yX5_loverPairs.desc).map (fun d => d.parameters.length) = some 1 := ⟨rfl, by decide +kernel, by decide +kernel, by decide +kernel⟩
theorem yk_X5_firstLovers : yX5_firstLovers.cls = RX5 ∧ yX5_firstLovers.cls ≠ "java/lang/invoke/MethodHandle" ∧ yX5_firstLovers.cls ≠ "java/lang/invoke/VarHandle" ∧ (parseMethodDescriptor yX5_firstLovers.desc).map (fun d => d.parameters.length) = some 1 := ⟨rfl, by decide +kernel, by decide +kernel, by decide +kernel⟩
theorem yk_X5_mostWeddings : yX5_mostWeddings.cls = RX5 ∧ yX5_mostWeddings.cls ≠ "java/lang/invoke/MethodHandle" ∧ yX5_mostWeddings.cls ≠ "java/lang/invoke/VarHandle" ∧ (parseMethodDescriptor yX5_mostWeddings.desc).map (fun d => d.parameters.length) = some 1 := ⟨rfl, by decide +kernel, by decide +kernel, by decide +kernel⟩
theorem yk_X9_richestPerson : yX9_richestPerson.cls = RX9 ∧ yX9_richestPerson.cls ≠ "java/lang/invoke/MethodHandle" ∧ yX9_richestPerson.cls ≠ "java/lang/invoke/VarHandle" ∧ (parseMethodDescriptor yX9_richestPerson.desc).map (fun d => d.parameters.length) = some 0 := ⟨rfl, by decide +kernel, by decide +kernel, by decide +kernel⟩
theorem yk_X11_checkPerson : yX11_checkPerson.cls = RX11 ∧ yX11_checkPerson.cls ≠ "java/lang/invoke/MethodHandle" ∧ yX11_checkPerson.cls ≠ "java/lang/invoke/VarHandle" ∧ (parseMethodDescriptor yX11_checkPerson.desc).map (fun d => d.parameters.length) = some 1 := ⟨rfl, by decide +kernel, by decide +kernel, by decide +kernel⟩
theorem yk_X11_checkMatch : yX11_checkMatch.cls = RX11 ∧ yX11_checkMatch.cls ≠ "java/lang/invoke/MethodHandle" ∧ yX11_checkMatch.cls ≠ "java/lang/invoke/VarHandle" ∧ (parseMethodDescriptor yX11_checkMatch.desc).map (fun d => d.parameters.length) = some 1 := ⟨rfl, by decide +kernel, by decide +kernel, by decide +kernel⟩
theorem yk_X11_checkGoesOn : yX11_checkGoesOn.cls = RX11 ∧ yX11_checkGoesOn.cls ≠ "java/lang/invoke/MethodHandle" ∧ yX11_checkGoesOn.cls ≠ "java/lang/invoke/VarHandle" ∧ (parseMethodDescriptor yX11_checkGoesOn.desc).map (fun d => d.parameters.length) = some 1 := ⟨rfl, by decide +kernel, by decide +kernel, by decide +kernel⟩
theorem yk_X11_checkNumber : yX11_checkNumber.cls = RX11 ∧ yX11_checkNumber.cls ≠ "java/lang/invoke/MethodHandle" ∧ yX11_checkNumber.cls ≠ "java/lang/invoke/VarHandle" ∧ (parseMethodDescriptor yX11_checkNumber.desc).map (fun d => d.parameters.length) = some 3 := ⟨rfl, by decide +kernel, by decide +kernel, by decide +kernel⟩
theorem yk_X11_useTapeUp : yX11_useTapeUp.cls = RX11 ∧ yX11_useTapeUp.cls ≠ "java/lang/invoke/MethodHandle" ∧ yX11_useTapeUp.cls ≠ "java/lang/invoke/VarHandle" ∧ (parseMethodDescriptor yX11_useTapeUp.desc).map (fun d => d.parameters.length) = some 0 := ⟨rfl, by decide +kernel, by decide +kernel, by decide +kernel⟩
theorem yk_X8_reads : yX8_reads.cls = RX8 ∧ yX8_reads.cls ≠ "java/lang/invoke/MethodHandle" ∧ yX8_reads.cls ≠ "java/lang/invoke/VarHandle" ∧ (parseMethodDescriptor yX8_reads.desc).map (fun d => d.parameters.length) = some 3 := ⟨rfl, by decide +kernel, by decide +kernel, by decide +kernel⟩
theorem yk_X7_linesOf : yX7_linesOf.cls = RX7 ∧ yX7_linesOf.cls ≠ "java/lang/invoke/MethodHandle" ∧ yX7_linesOf.cls ≠ "java/lang/invoke/VarHandle" ∧ (parseMethodDescriptor yX7_linesOf.desc).map (fun d => d.parameters.length) = some 3 := ⟨rfl, by decide +kernel, by decide +kernel, by decide +kernel⟩
theorem ykx_X7_linesOf : ("RivalWeds$Text" : String) ≠ "java/lang/invoke/MethodHandle" ∧ ("RivalWeds$Text" : String) ≠ "java/lang/invoke/VarHandle" ∧ (parseMethodDescriptor yX7_linesOf.desc).map (fun d => d.parameters.length) = some 3 := ⟨by decide +kernel, by decide +kernel, by decide +kernel⟩
theorem yk_X2_clearLines : yX2_clearLines.cls = RX2 ∧ yX2_clearLines.cls ≠ "java/lang/invoke/MethodHandle" ∧ yX2_clearLines.cls ≠ "java/lang/invoke/VarHandle" ∧ (parseMethodDescriptor yX2_clearLines.desc).map (fun d => d.parameters.length) = some 0 := ⟨rfl, by decide +kernel, by decide +kernel, by decide +kernel⟩
theorem yk_X9_shareOf : yX9_shareOf.cls = RX9 ∧ yX9_shareOf.cls ≠ "java/lang/invoke/MethodHandle" ∧ yX9_shareOf.cls ≠ "java/lang/invoke/VarHandle" ∧ (parseMethodDescriptor yX9_shareOf.desc).map (fun d => d.parameters.length) = some 1 := ⟨rfl, by decide +kernel, by decide +kernel, by decide +kernel⟩
theorem yk_X11_checkTwo : yX11_checkTwo.cls = RX11 ∧ yX11_checkTwo.cls ≠ "java/lang/invoke/MethodHandle" ∧ yX11_checkTwo.cls ≠ "java/lang/invoke/VarHandle" ∧ (parseMethodDescriptor yX11_checkTwo.desc).map (fun d => d.parameters.length) = some 2 := ⟨rfl, by decide +kernel, by decide +kernel, by decide +kernel⟩
theorem yk_X0_turnsNow : yX0_turnsNow.cls = RX0 ∧ yX0_turnsNow.cls ≠ "java/lang/invoke/MethodHandle" ∧ yX0_turnsNow.cls ≠ "java/lang/invoke/VarHandle" ∧ (parseMethodDescriptor yX0_turnsNow.desc).map (fun d => d.parameters.length) = some 3 := ⟨rfl, by decide +kernel, by decide +kernel, by decide +kernel⟩
theorem yk_X11_remember : yX11_remember.cls = RX11 ∧ yX11_remember.cls ≠ "java/lang/invoke/MethodHandle" ∧ yX11_remember.cls ≠ "java/lang/invoke/VarHandle" ∧ (parseMethodDescriptor yX11_remember.desc).map (fun d => d.parameters.length) = some 0 := ⟨rfl, by decide +kernel, by decide +kernel, by decide +kernel⟩
theorem yk_X11_checkInsurer : yX11_checkInsurer.cls = RX11 ∧ yX11_checkInsurer.cls ≠ "java/lang/invoke/MethodHandle" ∧ yX11_checkInsurer.cls ≠ "java/lang/invoke/VarHandle" ∧ (parseMethodDescriptor yX11_checkInsurer.desc).map (fun d => d.parameters.length) = some 2 := ⟨rfl, by decide +kernel, by decide +kernel, by decide +kernel⟩
theorem yk_X9_changeHappy : yX9_changeHappy.cls = RX9 ∧ yX9_changeHappy.cls ≠ "java/lang/invoke/MethodHandle" ∧ yX9_changeHappy.cls ≠ "java/lang/invoke/VarHandle" ∧ (parseMethodDescriptor yX9_changeHappy.desc).map (fun d => d.parameters.length) = some 2 := ⟨rfl, by decide +kernel, by decide +kernel, by decide +kernel⟩
theorem yk_X5_bestFor : yX5_bestFor.cls = RX5 ∧ yX5_bestFor.cls ≠ "java/lang/invoke/MethodHandle" ∧ yX5_bestFor.cls ≠ "java/lang/invoke/VarHandle" ∧ (parseMethodDescriptor yX5_bestFor.desc).map (fun d => d.parameters.length) = some 2 := ⟨rfl, by decide +kernel, by decide +kernel, by decide +kernel⟩
theorem yk_X11_checkQuarrel : yX11_checkQuarrel.cls = RX11 ∧ yX11_checkQuarrel.cls ≠ "java/lang/invoke/MethodHandle" ∧ yX11_checkQuarrel.cls ≠ "java/lang/invoke/VarHandle" ∧ (parseMethodDescriptor yX11_checkQuarrel.desc).map (fun d => d.parameters.length) = some 1 := ⟨rfl, by decide +kernel, by decide +kernel, by decide +kernel⟩
theorem yk_X0_happyNext : yX0_happyNext.cls = RX0 ∧ yX0_happyNext.cls ≠ "java/lang/invoke/MethodHandle" ∧ yX0_happyNext.cls ≠ "java/lang/invoke/VarHandle" ∧ (parseMethodDescriptor yX0_happyNext.desc).map (fun d => d.parameters.length) = some 4 := ⟨rfl, by decide +kernel, by decide +kernel, by decide +kernel⟩
theorem yk_X0_happyAhead : yX0_happyAhead.cls = RX0 ∧ yX0_happyAhead.cls ≠ "java/lang/invoke/MethodHandle" ∧ yX0_happyAhead.cls ≠ "java/lang/invoke/VarHandle" ∧ (parseMethodDescriptor yX0_happyAhead.desc).map (fun d => d.parameters.length) = some 5 := ⟨rfl, by decide +kernel, by decide +kernel, by decide +kernel⟩
theorem yk_X0_firstClaim : yX0_firstClaim.cls = RX0 ∧ yX0_firstClaim.cls ≠ "java/lang/invoke/MethodHandle" ∧ yX0_firstClaim.cls ≠ "java/lang/invoke/VarHandle" ∧ (parseMethodDescriptor yX0_firstClaim.desc).map (fun d => d.parameters.length) = some 4 := ⟨rfl, by decide +kernel, by decide +kernel, by decide +kernel⟩
theorem yk_X0_claimQuarrels : yX0_claimQuarrels.cls = RX0 ∧ yX0_claimQuarrels.cls ≠ "java/lang/invoke/MethodHandle" ∧ yX0_claimQuarrels.cls ≠ "java/lang/invoke/VarHandle" ∧ (parseMethodDescriptor yX0_claimQuarrels.desc).map (fun d => d.parameters.length) = some 3 := ⟨rfl, by decide +kernel, by decide +kernel, by decide +kernel⟩
theorem yk_X0_fewestGifts : yX0_fewestGifts.cls = RX0 ∧ yX0_fewestGifts.cls ≠ "java/lang/invoke/MethodHandle" ∧ yX0_fewestGifts.cls ≠ "java/lang/invoke/VarHandle" ∧ (parseMethodDescriptor yX0_fewestGifts.desc).map (fun d => d.parameters.length) = some 5 := ⟨rfl, by decide +kernel, by decide +kernel, by decide +kernel⟩
theorem yk_X0_lossOf : yX0_lossOf.cls = RX0 ∧ yX0_lossOf.cls ≠ "java/lang/invoke/MethodHandle" ∧ yX0_lossOf.cls ≠ "java/lang/invoke/VarHandle" ∧ (parseMethodDescriptor yX0_lossOf.desc).map (fun d => d.parameters.length) = some 2 := ⟨rfl, by decide +kernel, by decide +kernel, by decide +kernel⟩
theorem yk_X0_leastWealth : yX0_leastWealth.cls = RX0 ∧ yX0_leastWealth.cls ≠ "java/lang/invoke/MethodHandle" ∧ yX0_leastWealth.cls ≠ "java/lang/invoke/VarHandle" ∧ (parseMethodDescriptor yX0_leastWealth.desc).map (fun d => d.parameters.length) = some 2 := ⟨rfl, by decide +kernel, by decide +kernel, by decide +kernel⟩
theorem yk_X9_leaners : yX9_leaners.cls = RX9 ∧ yX9_leaners.cls ≠ "java/lang/invoke/MethodHandle" ∧ yX9_leaners.cls ≠ "java/lang/invoke/VarHandle" ∧ (parseMethodDescriptor yX9_leaners.desc).map (fun d => d.parameters.length) = some 1 := ⟨rfl, by decide +kernel, by decide +kernel, by decide +kernel⟩
theorem yk_X5_steadyPartner : yX5_steadyPartner.cls = RX5 ∧ yX5_steadyPartner.cls ≠ "java/lang/invoke/MethodHandle" ∧ yX5_steadyPartner.cls ≠ "java/lang/invoke/VarHandle" ∧ (parseMethodDescriptor yX5_steadyPartner.desc).map (fun d => d.parameters.length) = some 2 := ⟨rfl, by decide +kernel, by decide +kernel, by decide +kernel⟩
theorem yk_X11_readTold : yX11_readTold.cls = RX11 ∧ yX11_readTold.cls ≠ "java/lang/invoke/MethodHandle" ∧ yX11_readTold.cls ≠ "java/lang/invoke/VarHandle" ∧ (parseMethodDescriptor yX11_readTold.desc).map (fun d => d.parameters.length) = some 0 := ⟨rfl, by decide +kernel, by decide +kernel, by decide +kernel⟩
theorem yk_X8_inAll : yX8_inAll.cls = RX8 ∧ yX8_inAll.cls ≠ "java/lang/invoke/MethodHandle" ∧ yX8_inAll.cls ≠ "java/lang/invoke/VarHandle" ∧ (parseMethodDescriptor yX8_inAll.desc).map (fun d => d.parameters.length) = some 0 := ⟨rfl, by decide +kernel, by decide +kernel, by decide +kernel⟩
theorem yk_X8_bestParter : yX8_bestParter.cls = RX8 ∧ yX8_bestParter.cls ≠ "java/lang/invoke/MethodHandle" ∧ yX8_bestParter.cls ≠ "java/lang/invoke/VarHandle" ∧ (parseMethodDescriptor yX8_bestParter.desc).map (fun d => d.parameters.length) = some 0 := ⟨rfl, by decide +kernel, by decide +kernel, by decide +kernel⟩
theorem yk_X0_tryMonths : yX0_tryMonths.cls = RX0 ∧ yX0_tryMonths.cls ≠ "java/lang/invoke/MethodHandle" ∧ yX0_tryMonths.cls ≠ "java/lang/invoke/VarHandle" ∧ (parseMethodDescriptor yX0_tryMonths.desc).map (fun d => d.parameters.length) = some 4 := ⟨rfl, by decide +kernel, by decide +kernel, by decide +kernel⟩
theorem yk_X0_ruinedInTrial : yX0_ruinedInTrial.cls = RX0 ∧ yX0_ruinedInTrial.cls ≠ "java/lang/invoke/MethodHandle" ∧ yX0_ruinedInTrial.cls ≠ "java/lang/invoke/VarHandle" ∧ (parseMethodDescriptor yX0_ruinedInTrial.desc).map (fun d => d.parameters.length) = some 0 := ⟨rfl, by decide +kernel, by decide +kernel, by decide +kernel⟩
theorem yk_X9_loggedClaims : yX9_loggedClaims.cls = RX9 ∧ yX9_loggedClaims.cls ≠ "java/lang/invoke/MethodHandle" ∧ yX9_loggedClaims.cls ≠ "java/lang/invoke/VarHandle" ∧ (parseMethodDescriptor yX9_loggedClaims.desc).map (fun d => d.parameters.length) = some 1 := ⟨rfl, by decide +kernel, by decide +kernel, by decide +kernel⟩
theorem yk_X9_loggedPaid : yX9_loggedPaid.cls = RX9 ∧ yX9_loggedPaid.cls ≠ "java/lang/invoke/MethodHandle" ∧ yX9_loggedPaid.cls ≠ "java/lang/invoke/VarHandle" ∧ (parseMethodDescriptor yX9_loggedPaid.desc).map (fun d => d.parameters.length) = some 1 := ⟨rfl, by decide +kernel, by decide +kernel, by decide +kernel⟩
theorem yk_J0_coder_7d493 : yJ0_coder_7d493.cls = RJ0 ∧ yJ0_coder_7d493.cls ≠ "java/lang/invoke/MethodHandle" ∧ yJ0_coder_7d493.cls ≠ "java/lang/invoke/VarHandle" ∧ (parseMethodDescriptor yJ0_coder_7d493.desc).map (fun d => d.parameters.length) = some 0 := ⟨rfl, by decide +kernel, by decide +kernel, by decide +kernel⟩
theorem yk_J0_isLatin1_aae02 : yJ0_isLatin1_aae02.cls = RJ0 ∧ yJ0_isLatin1_aae02.cls ≠ "java/lang/invoke/MethodHandle" ∧ yJ0_isLatin1_aae02.cls ≠ "java/lang/invoke/VarHandle" ∧ (parseMethodDescriptor yJ0_isLatin1_aae02.desc).map (fun d => d.parameters.length) = some 0 := ⟨rfl, by decide +kernel, by decide +kernel, by decide +kernel⟩
theorem yk_J1_charAt_3b067 : yJ1_charAt_3b067.cls = RJ1 ∧ yJ1_charAt_3b067.cls ≠ "java/lang/invoke/MethodHandle" ∧ yJ1_charAt_3b067.cls ≠ "java/lang/invoke/VarHandle" ∧ (parseMethodDescriptor yJ1_charAt_3b067.desc).map (fun d => d.parameters.length) = some 2 := ⟨rfl, by decide +kernel, by decide +kernel, by decide +kernel⟩
theorem yk_J0_checkIndex_df160 : yJ0_checkIndex_df160.cls = RJ0 ∧ yJ0_checkIndex_df160.cls ≠ "java/lang/invoke/MethodHandle" ∧ yJ0_checkIndex_df160.cls ≠ "java/lang/invoke/VarHandle" ∧ (parseMethodDescriptor yJ0_checkIndex_df160.desc).map (fun d => d.parameters.length) = some 2 := ⟨rfl, by decide +kernel, by decide +kernel, by decide +kernel⟩
theorem yk_J3_checkIndex_8e157 : yJ3_checkIndex_8e157.cls = RJ3 ∧ yJ3_checkIndex_8e157.cls ≠ "java/lang/invoke/MethodHandle" ∧ yJ3_checkIndex_8e157.cls ≠ "java/lang/invoke/VarHandle" ∧ (parseMethodDescriptor yJ3_checkIndex_8e157.desc).map (fun d => d.parameters.length) = some 3 := ⟨rfl, by decide +kernel, by decide +kernel, by decide +kernel⟩
theorem yk_J0_length_8abf5 : yJ0_length_8abf5.cls = RJ0 ∧ yJ0_length_8abf5.cls ≠ "java/lang/invoke/MethodHandle" ∧ yJ0_length_8abf5.cls ≠ "java/lang/invoke/VarHandle" ∧ (parseMethodDescriptor yJ0_length_8abf5.desc).map (fun d => d.parameters.length) = some 0 := ⟨rfl, by decide +kernel, by decide +kernel, by decide +kernel⟩
theorem yk_J0_charAt_5068e : yJ0_charAt_5068e.cls = RJ0 ∧ yJ0_charAt_5068e.cls ≠ "java/lang/invoke/MethodHandle" ∧ yJ0_charAt_5068e.cls ≠ "java/lang/invoke/VarHandle" ∧ (parseMethodDescriptor yJ0_charAt_5068e.desc).map (fun d => d.parameters.length) = some 1 := ⟨rfl, by decide +kernel, by decide +kernel, by decide +kernel⟩
