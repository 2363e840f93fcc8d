/-! the classes of cells -/
abbrev wCl : List vw_C := [(RX0, TX0, 14), (RX1, TX1, 7), (RX2, TX2, 12), (RX3, TX3, 14), (RX4, TX4, 6), (RX5, TX5, 6), (RX6, TX6, 7), (RX7, TX7, 13), (RX8, TX8, 5), (RX9, TX9, 7), (RX10, TX10, 11), (RX11, TX11, 11), (RX12, TX12, 97)]
