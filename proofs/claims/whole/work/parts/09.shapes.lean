/-! the two worlds' shapes -/
def SHC : List Shp := [(9, 0, [some 1, some 2, some 4, some 10, some 15, some 19]), (8, 0, [none, none]), (5, 0, [some 3, none]), (0, 4, []), (7, 0, [some 5, none]), (2, 4, [some 6, some 7, some 8, some 9]), (0, 7, []), (0, 7, []), (0, 7, []), (0, 7, []),
  (6, 0, [some 1, some 2, some 11, some 12, some 13, some 14, none, none]), (1, 300, []), (0, 300, []), (1, 300, []), (0, 300, []), (4, 0, [some 1, some 10, some 16, some 17, some 18]), (1, 12, []), (1, 12, []), (0, 4, []),
  (3, 0, [some 1, some 2, some 10, some 20, some 21, some 22, some 23, some 24, none, none]), (0, 25, []), (0, 25, []), (1, 25, []), (0, 25, []), (0, 25, [])]
def SHM : List Shp := [(10, 0, [some 1, some 2, none, none, some 3, some 4, some 5, some 6, none]), (0, 7, []), (0, 28, []), (0, 48, []), (0, 144, []), (1, 300, []), (0, 300, [])]
