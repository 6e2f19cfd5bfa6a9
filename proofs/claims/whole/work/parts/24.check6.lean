/-! methods, on (printed) -/
theorem zt_L_bitCount_ok : zt_okk zt_L_bitCount := ⟨⟨by decide +kernel, zt_in 639 (by decide +kernel) rfl, zt_in 148 (by decide +kernel) rfl, ⟨by decide +kernel, by decide +kernel⟩, by decide +kernel, by decide, fun _ => zt_in 638 (by decide +kernel) rfl, fun h => by contradiction⟩, zt_XL, zt_okL, zt_okT (by decide +kernel)⟩
