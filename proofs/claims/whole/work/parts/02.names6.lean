abbrev vwCl : List vw_C := [(RX1, TX1, 2), (RX2, TX2, 4), (RX3, TX3, 2), (RX4, TX4, 3), (RX5, TX5, 4), (RX8, TX8, 11), (RX9, TX9, 21)]
