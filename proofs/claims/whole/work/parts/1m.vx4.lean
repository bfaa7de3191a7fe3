set_option maxRecDepth 100000 in
theorem zx_wI {args : Array Value} {s : State} (hts : ∀ w ∈ kw_all, w.before args s = true) (hV : zj_V s) : zx_W zj_IA 22 26 args s :=
  zx_words (ix := 7) (rx := Bundle.six) hts hV ⟨by decide +kernel, by decide +kernel, by decide +kernel, by decide +kernel⟩ (by decide +kernel) (List.mem_of_getElem? (i := 82) rfl) (List.mem_of_getElem? (i := 31) rfl) (by decide +kernel) (by decide +kernel)
set_option maxRecDepth 100000 in
theorem zx_wU {args : Array Value} {s : State} (hts : ∀ w ∈ kw_all, w.before args s = true) (hV : zj_V s) : zx_W zj_UO 60 64 args s :=
  zx_words (ix := 7) (rx := Bundle.six) hts hV ⟨by decide +kernel, by decide +kernel, by decide +kernel, by decide +kernel⟩ (by decide +kernel) (List.mem_of_getElem? (i := 186) rfl) (List.mem_of_getElem? (i := 34) rfl) (by decide +kernel) (by decide +kernel)
set_option maxRecDepth 100000 in
theorem zx_wN {args : Array Value} {s : State} (hts : ∀ w ∈ kw_all, w.before args s = true) (hV : zj_V s) : zx_W zj_NS 127 129 args s :=
  zx_words (ix := 13) (rx := prog_14_method_4_code) hts hV ⟨by decide +kernel, by decide +kernel, by decide +kernel, by decide +kernel⟩ (by decide +kernel) (List.mem_of_getElem? (i := 247) rfl) (List.mem_of_getElem? (i := 35) rfl) (by decide +kernel) (by decide +kernel)
set_option maxRecDepth 100000 in
theorem zx_wO {args : Array Value} {s : State} (hts : ∀ w ∈ kw_all, w.before args s = true) (hV : zj_V s) : zx_W zj_IO 84 88 args s :=
  zx_words (ix := 7) (rx := Bundle.six) hts hV ⟨by decide +kernel, by decide +kernel, by decide +kernel, by decide +kernel⟩ (by decide +kernel) (List.mem_of_getElem? (i := 280) rfl) (List.mem_of_getElem? (i := 36) rfl) (by decide +kernel) (by decide +kernel)
