/** Small beginnings that several tests share. */
final class Cases {
    private Cases() {
    }

    /** So many subscribers from 0 on, living, all at exchange 0. */
    static DeadLines people(int many) {
        DeadLines x = new DeadLines();
        for (int s = 0; s < many; s++) {
            x.subscriber(s, 0, true);
        }
        return x;
    }

    /** A living one (0) and a dead one (1), with two trunks of two circuits between them; no law. */
    static DeadLines pair() {
        DeadLines x = new DeadLines();
        x.trunk(0, 1, 2);
        x.trunk(1, 2, 2);
        x.subscriber(0, 0, true);
        x.subscriber(1, 2, false);
        return x;
    }

    /** Of the pair the living one has rung the other for so many minutes and pays; a minute has gone by. */
    static DeadLines talking(int minutes) {
        DeadLines x = pair();
        Due.law(x, "r10(s=0);w1(1=1);l" + minutes + "(1=1)");
        Due.is("a call began", x.minutes(1), 1);
        return x;
    }

    /** X behind so many draws. */
    static int drawn(int seed, int draws) {
        long x = seed;
        for (int i = 0; i < draws; i++) {
            x = (25173 * x + 13849) % 65536;
        }
        return (int) x;
    }
}
