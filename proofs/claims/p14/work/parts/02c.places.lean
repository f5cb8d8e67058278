set_option maxRecDepth 100000 in
theorem hq_instX0 : Cond.instantiable RX0 5 ∈ lw_tbl := List.mem_of_getElem? (i := 102) rfl
set_option maxRecDepth 100000 in
theorem hq_instX1 : Cond.instantiable RX1 3 ∈ lw_tbl := List.mem_of_getElem? (i := 228) rfl
set_option maxRecDepth 100000 in
theorem hq_instX2 : Cond.instantiable RX2 1 ∈ lw_tbl := List.mem_of_getElem? (i := 222) rfl
set_option maxRecDepth 100000 in
theorem hq_instX3 : Cond.instantiable RX3 5 ∈ lw_tbl := List.mem_of_getElem? (i := 290) rfl
set_option maxRecDepth 100000 in
theorem hq_instX5 : Cond.instantiable RX5 5 ∈ lw_tbl := List.mem_of_getElem? (i := 248) rfl
set_option maxRecDepth 100000 in
theorem hq_instX6 : Cond.instantiable RX6 8 ∈ lw_tbl := List.mem_of_getElem? (i := 270) rfl
set_option maxRecDepth 100000 in
theorem hq_instX7 : Cond.instantiable RX7 11 ∈ lw_tbl := List.mem_of_getElem? (i := 109) rfl
set_option maxRecDepth 100000 in
theorem hq_instX8 : Cond.instantiable RX8 1 ∈ lw_tbl := List.mem_of_getElem? (i := 202) rfl
set_option maxRecDepth 100000 in
theorem hq_instX10 : Cond.instantiable RX10 2 ∈ lw_tbl := List.mem_of_getElem? (i := 278) rfl
set_option maxRecDepth 100000 in
theorem hq_instX11 : Cond.instantiable RX11 8 ∈ lw_tbl := List.mem_of_getElem? (i := 94) rfl
set_option maxRecDepth 100000 in
theorem hq_instX12 : Cond.instantiable RX12 48 ∈ lw_tbl := List.mem_of_getElem? (i := 882) rfl
set_option maxRecDepth 100000 in
theorem hq_aI : Cond.arrayClass .int ∈ lw_tbl := List.mem_of_getElem? (i := 178) rfl
set_option maxRecDepth 100000 in
theorem hq_aZ : Cond.arrayClass .boolean ∈ lw_tbl := List.mem_of_getElem? (i := 1035) rfl
set_option maxRecDepth 100000 in
theorem hq_aM : Cond.arrayOver (.object RX7) ∈ lw_tbl := List.mem_of_getElem? (i := 108) rfl
set_option maxRecDepth 100000 in
theorem hq_aF : Cond.arrayOver (.object RX3) ∈ lw_tbl := List.mem_of_getElem? (i := 276) rfl
set_option maxRecDepth 100000 in
theorem hq_n1 : Cond.methodLinkNest RX2 11 yX1_init "StepRewriter" ∈ lw_tbl := List.mem_of_getElem? (i := 229) rfl
set_option maxRecDepth 100000 in
theorem hq_n2 : Cond.methodLinkNest RX6 19 yX10_init "StepRewriter" ∈ lw_tbl := List.mem_of_getElem? (i := 279) rfl
set_option maxRecDepth 100000 in
theorem hq_n3 : Cond.methodLinkNest RX11 36 yX2_init "StepRewriter" ∈ lw_tbl := List.mem_of_getElem? (i := 223) rfl
set_option maxRecDepth 100000 in
theorem hq_n4 : Cond.methodLinkNest RX11 43 yX5_init "StepRewriter" ∈ lw_tbl := List.mem_of_getElem? (i := 249) rfl
