/** Maps of the plane that keep validity and relations, for figures of numbers from -20 to 24. */
final class Maps {
    /** All the turns and mirrorings of the grid, and leaning ones with images up to 1073741823 in size. */
    static final long[][] ALL = {
        {1, 0, 0, 0, 1, 0}, {-1, 0, 3, 0, 1, 0}, {1, 0, 0, 0, -1, 2}, {-1, 0, -5, 0, -1, -7},
        {0, 1, 0, 1, 0, 0}, {0, -1, 1, 1, 0, 0}, {0, 1, 4, -1, 0, 0}, {0, -1, 0, -1, 0, 0},
        {29000000, 0, 377741823, 0, 29000000, 377741823}, {-29000000, 0, -377741823, 0, 29000000, 377741823},
        {20000001, 9000000, 100000000, 9000000, 20000003, 100000000}, {20000001, -9000000, 7, 19999999, -9000001, 13},
        {3, 2, 0, 1, 1, 0}, {1, 1, 0, 1, 2, 0}};

    private Maps() {
    }
}
