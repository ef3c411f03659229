/-- the classes, by number -/
abbrev cl_ : List vw_C := [(RX0, TX0, 4), (RX1, TX1, 5), (RX2, TX2, 3), (RX3, TX3, 2), (RX4, TX4, 5), (RX5, TX5, 7), (RX6, TX6, 4), (RX7, TX7, 2), (RX8, TX8, 2), (RX9, TX9, 8), (RX10, TX10, 10), (RX11, TX11, 32)]
theorem zz_n : cl_.map (fun q => q.2.2) = [4,5,3,2,5,7,4,2,2,8,10,32] := rfl
