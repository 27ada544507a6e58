/-! what the model's constructor makes -/
def xs_cM (h : xh) : Bool := h.length == 4 && (List.range 4).all (fun o => xs_deq ((h[o]?).map (xz_c 82)) (some (xd_cell xs_M0.1 (xd_ro o) 6 o)))
set_option maxRecDepth 1000000 in
theorem xs_runM : xs_run 12000 118 7 xs_cM = true := by decide +kernel
