theorem eqs : EQs := fun _ _ _ hv => eq_but hv (tel_of (rkr_of hv (cer_all hv)).1)
