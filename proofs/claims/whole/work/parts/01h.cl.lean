abbrev vwCl : List vw_C := [(RX0, TX0, 11), (RX1, TX1, 6), (RX3, TX3, 3), (RX4, TX4, 2), (RX5, TX5, 7), (RX6, TX6, 18)]
