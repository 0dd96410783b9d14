set_option maxRecDepth 100000 in
theorem mkt_X12 : lw_tbl[1241]? = some (Cond.code yX12_init cX12_init 1 none) := rfl
theorem mki_X12 : zmInit mX12_init 0 := ⟨⟨zT_of 1241 mkt_X12 (by decide +kernel), zini_X12, ⟨by decide +kernel, by decide +kernel, by decide +kernel⟩, by decide⟩, rfl, zT_of 1240 (by decide +kernel) (by decide +kernel)⟩
