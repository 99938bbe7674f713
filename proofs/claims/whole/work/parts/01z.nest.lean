/-! links of static methods across the nest: they do not go over to callees by themselves -/
def NK (U : State) : Prop := va_Nw (.methodLinkNest RX1 54 yX11_isPast "RunWatch") U ∧ va_Nw (.methodLinkNest RX1 118 yX11_isSign "RunWatch") U ∧ va_Nw (.methodLinkNest RX2 83 yX11_isPast "RunWatch") U ∧ va_Nw (.methodLinkNest RX3 24 yX11_isPast "RunWatch") U
theorem NK.warm {s U : State} (hW : s.WarmedH U.vm) (h : NK s) : NK U := ⟨va_Nw.warmM hW h.1, va_Nw.warmM hW h.2.1, va_Nw.warmM hW h.2.2.1, va_Nw.warmM hW h.2.2.2⟩
theorem NK.X1_54 {U : State} (h : NK U) : va_Nw (.methodLinkNest RX1 54 yX11_isPast "RunWatch") U := h.1
theorem NK.X1_118 {U : State} (h : NK U) : va_Nw (.methodLinkNest RX1 118 yX11_isSign "RunWatch") U := h.2.1
theorem NK.X2_83 {U : State} (h : NK U) : va_Nw (.methodLinkNest RX2 83 yX11_isPast "RunWatch") U := h.2.2.1
theorem NK.X3_24 {U : State} (h : NK U) : va_Nw (.methodLinkNest RX3 24 yX11_isPast "RunWatch") U := h.2.2.2
theorem NK.start {s : State} {a : Array Value} (hts : ∀ w ∈ lw_tbl, w.before a s = true) : NK s := ⟨va_Nw.of rfl (hts _ (List.mem_of_getElem? (i := 336) (by decide +kernel))), va_Nw.of rfl (hts _ (List.mem_of_getElem? (i := 804) (by decide +kernel))), va_Nw.of rfl (hts _ (List.mem_of_getElem? (i := 842) (by decide +kernel))), va_Nw.of rfl (hts _ (List.mem_of_getElem? (i := 814) (by decide +kernel)))⟩
