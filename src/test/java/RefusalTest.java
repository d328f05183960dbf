import java.util.function.Supplier;

/**
 * "A method that throws an exception changes nothing. If several exceptions apply, the one that is named first is
 * thrown." Each refused call is made to one of two posts that are alike; what both tell must stay alike, at once and
 * for many ticks on.
 */
public final class RefusalTest {
    private static final int MIN = Integer.MIN_VALUE;
    private static final int MAX = Integer.MAX_VALUE;
    private static final int TICKS_WATCHED = 60;

    private static final Class<IndexOutOfBoundsException> INDEX = IndexOutOfBoundsException.class;
    private static final Class<IllegalArgumentException> ARGUMENT = IllegalArgumentException.class;
    private static final Class<IllegalStateException> STATE = IllegalStateException.class;

    interface Ask {
        long of(TubePost post);
    }

    public static void main(String[] args) {
        addStation();
        addStationToAFullNet();
        addTube();
        addTubeToAFullStation();
        addTubeToAFullNet();
        turn();
        setTube();
        addEntry();
        addEntryByWhatIsNamedFirst();
        addEntryToAFullTimetable();
        send();
        sendWithoutRoom();
        sendWithFortyUnderWay();
        sendBehindFiveHundred();
        run();
        telling();
        Due.close("RefusalTest");
    }

    private static void refused(Supplier<TubePost> maker, Class<? extends RuntimeException> want, String what, Ask ask) {
        TubePost asked = maker.get();
        TubePost twin = maker.get();
        Due.refuses(what, want, () -> ask.of(asked));
        tellTheSame(what, asked, twin);
        for (int i = 1; i <= TICKS_WATCHED; i++) {
            Due.same(what + ": delivered " + i + " ticks on", asked.run(1), twin.run(1));
            Due.same(what + ": digest " + i + " ticks on", asked.digest(), twin.digest());
        }
    }

    /** What the digest leaves out is told by the ways, and by what the posts do later. */
    private static void tellTheSame(String what, TubePost asked, TubePost twin) {
        Due.same(what + ": digest", asked.digest(), twin.digest());
        Due.sameDouble(what + ": mean", asked.mean(), twin.mean());
        int stations = Math.min(4, twin.count(1));
        for (int from = 0; from < stations; from++) {
            for (int aim = 0; aim < stations; aim++) {
                Due.same(what + ": time", asked.time(from, aim), twin.time(from, aim));
                Due.same(what + ": next", asked.next(from, aim), twin.next(from, aim));
            }
        }
        for (int tube = 0; tube < Math.min(6, twin.count(2)); tube++) {
            Due.same(what + ": parts", asked.parts(tube), twin.parts(tube));
        }
    }

    /** Four stations, of which number 2 is full, six tubes, some of them under way, and a clock that goes on. */
    private static TubePost busy() {
        TubePost post = new TubePost();
        post.addStation(9, 0);
        post.addStation(2, 3);
        post.addStation(1, 5);
        post.addStation(3, 1);
        post.addTube(0, 1, 4, 1, 2);
        post.addTube(1, 2, 6, 2, 1);
        post.addTube(2, 3, 3, 1, 2);
        post.addTube(3, 0, 5, 3, 8);
        post.addTube(0, 2, 20, 1, 3);
        post.addTube(2, 1, 7, 2, 1);
        post.addEntry(9, 14, 0, 0, 1);
        post.addEntry(12, 14, 0, 0, -1);
        post.addEntry(15, 10, 1, 2, 0);
        post.addEntry(18, 10, 1, 2, 1);
        post.addEntry(8, 3, 2, 0, 3);
        post.addEntry(10, 4, 2, 3, 1);
        post.run(3);
        Nets.send(post, 3, 0, 3, 0);
        Nets.send(post, 2, 0, 2, 2);
        post.send(1, 0, 1);
        post.run(4);
        post.setTube(4, 2, true);
        post.send(2, 1, 3);
        return post;
    }

    /** Busy, with 14 stations and 30 tubes; station 0 has 4 ways out, station 13 fewer. */
    private static TubePost full() {
        TubePost post = busy();
        for (int i = 4; i < 14; i++) {
            post.addStation(1, i);
        }
        post.addTube(0, 13, 2, 1, 1);
        post.addTube(0, 12, 2, 1, 1);
        for (int i = 8; i < 30; i++) {
            int from = 4 + (i - 8) % 10;
            post.addTube(from, from == 4 ? 0 : from - 1, 1 + i, 2, 1);
        }
        return post;
    }

    /** Busy, and station 0 has 4 ways out. */
    private static TubePost fourWays() {
        TubePost post = busy();
        post.addTube(0, 3, 50, 1, 1);
        post.addTube(0, 3, 40, 1, 1);
        return post;
    }

    private static TubePost fullTimetable() {
        TubePost post = busy();
        for (int i = 6; i < 12; i++) {
            post.addEntry(10 + i, 20, 2, i % 2, 3);
        }
        return post;
    }

    /** 40 are under way, and station 5 has room. */
    private static TubePost forty() {
        TubePost post = Nets.chain(6, 9, 3, 5);
        post.addTube(4, 0, 7, 2, 3);
        post.addEntry(20, 3, 2, 5, 0);
        for (int i = 0; i < 40; i++) {
            post.send(i / 8, (i / 8 + 1 + i % 4) % 6, 3 - i % 4);
            if (i == 20) {
                post.run(3);
            }
        }
        return post;
    }

    /** 500 were sent, two are under way. */
    private static TubePost fiveHundred() {
        TubePost post = Nets.chain(3, 9, 0, 1);
        post.addEntry(1, 1, 2, 0, 1);
        post.addEntry(500, 7, 1, 0, 0);
        post.addEntry(503, 7, 1, 0, 1);
        post.run(498);
        post.send(0, 2, 1);
        post.send(0, 2, 1);
        return post;
    }

    private static void addStation() {
        int[][] wrong = {{0, 5}, {10, 5}, {MIN, 5}, {MAX, 5}, {5, -1}, {5, 21}, {5, MIN}, {5, MAX}, {0, 21}};
        for (int[] a : wrong) {
            refused(RefusalTest::busy, ARGUMENT, "addStation(" + a[0] + ", " + a[1] + ")",
                    post -> post.addStation(a[0], a[1]));
        }
    }

    private static void addStationToAFullNet() {
        refused(RefusalTest::full, STATE, "addStation, the 15th", post -> post.addStation(1, 0));
        refused(RefusalTest::full, STATE, "addStation, the 15th", post -> post.addStation(9, 20));
        int[][] wrong = {{0, 0}, {10, 20}, {1, -1}, {9, 21}};
        for (int[] a : wrong) {
            refused(RefusalTest::full, ARGUMENT, "addStation, the 15th and wrong (" + a[0] + ", " + a[1] + ")",
                    post -> post.addStation(a[0], a[1]));
        }
    }

    /** Each wrong ending of addTube: length, speed and bore. */
    private static final int[][] WRONG_TUBES = {{0, 1, 1}, {61, 1, 1}, {MIN, 1, 1}, {MAX, 1, 1}, {1, 0, 1}, {1, 7, 1},
        {1, MIN, 1}, {1, MAX, 1}, {1, 1, 0}, {1, 1, 9}, {1, 1, MIN}, {1, 1, MAX}, {0, 0, 0}};

    private static void addTubeIs(Supplier<TubePost> maker, Class<? extends RuntimeException> want, int... a) {
        refused(maker, want, "addTube(" + a[0] + ", " + a[1] + ", " + a[2] + ", " + a[3] + ", " + a[4] + ")",
                post -> post.addTube(a[0], a[1], a[2], a[3], a[4]));
    }

    private static void addTube() {
        int[] nowhere = {-1, 4, MIN, MAX};
        for (int station : nowhere) {
            addTubeIs(RefusalTest::busy, INDEX, station, 1, 1, 1, 1);
            addTubeIs(RefusalTest::busy, INDEX, 1, station, 1, 1, 1);
            addTubeIs(RefusalTest::busy, INDEX, station, station, 1, 1, 1);
            for (int[] wrong : WRONG_TUBES) {
                addTubeIs(RefusalTest::busy, INDEX, station, 1, wrong[0], wrong[1], wrong[2]);
                addTubeIs(RefusalTest::busy, INDEX, 1, station, wrong[0], wrong[1], wrong[2]);
            }
        }
        addTubeIs(RefusalTest::busy, ARGUMENT, 3, 3, 1, 1, 1);
        for (int[] wrong : WRONG_TUBES) {
            addTubeIs(RefusalTest::busy, ARGUMENT, 1, 3, wrong[0], wrong[1], wrong[2]);
            addTubeIs(RefusalTest::busy, ARGUMENT, 1, 1, wrong[0], wrong[1], wrong[2]);
        }
    }

    private static void addTubeToAFullStation() {
        addTubeIs(RefusalTest::fourWays, STATE, 0, 1, 1, 1, 1);
        addTubeIs(RefusalTest::fourWays, INDEX, 0, 4, 1, 1, 1);
        addTubeIs(RefusalTest::fourWays, INDEX, 0, -1, 1, 1, 1);
        addTubeIs(RefusalTest::fourWays, ARGUMENT, 0, 0, 1, 1, 1);
        for (int[] wrong : WRONG_TUBES) {
            addTubeIs(RefusalTest::fourWays, ARGUMENT, 0, 1, wrong[0], wrong[1], wrong[2]);
        }
    }

    private static void addTubeToAFullNet() {
        addTubeIs(RefusalTest::full, STATE, 13, 0, 1, 1, 1);
        addTubeIs(RefusalTest::full, STATE, 0, 13, 60, 6, 8);
        addTubeIs(RefusalTest::full, INDEX, 14, 0, 1, 1, 1);
        addTubeIs(RefusalTest::full, INDEX, -1, 0, 1, 1, 1);
        addTubeIs(RefusalTest::full, INDEX, 13, 14, 1, 1, 1);
        addTubeIs(RefusalTest::full, INDEX, 13, -1, 1, 1, 1);
        addTubeIs(RefusalTest::full, ARGUMENT, 13, 13, 1, 1, 1);
        for (int[] wrong : WRONG_TUBES) {
            addTubeIs(RefusalTest::full, ARGUMENT, 13, 0, wrong[0], wrong[1], wrong[2]);
        }
    }

    private static void turn() {
        // In busy(), station 0 has two ways out, and the others have one or two.
        int[][] noStation = {{-1, -1}, {4, -1}, {MIN, 0}, {MAX, 0}, {-1, -2}, {4, 9}, {4, MIN}, {-1, MAX}};
        for (int[] a : noStation) {
            refused(RefusalTest::busy, INDEX, "turn(" + a[0] + ", " + a[1] + ")", post -> post.turn(a[0], a[1]));
        }
        int[][] noWay = {{0, 2}, {0, -2}, {0, MAX}, {0, MIN}, {1, 1}, {2, 2}, {3, 1}};
        for (int[] a : noWay) {
            refused(RefusalTest::busy, ARGUMENT, "turn(" + a[0] + ", " + a[1] + ")", post -> post.turn(a[0], a[1]));
        }
        refused(RefusalTest::fourWays, ARGUMENT, "turn(0, 4)", post -> post.turn(0, 4));
    }

    private static void setTube() {
        int[] noTube = {-1, 6, MIN, MAX};
        int[] noSpeed = {0, 7, MIN, MAX};
        for (int tube : noTube) {
            refused(RefusalTest::busy, INDEX, "setTube of " + tube, post -> post.setTube(tube, 6, false));
            for (int speed : noSpeed) {
                refused(RefusalTest::busy, INDEX, "setTube of " + tube + " to " + speed,
                        post -> post.setTube(tube, speed, false));
            }
        }
        for (int speed : noSpeed) {
            refused(RefusalTest::busy, ARGUMENT, "setTube to " + speed + " and shut",
                    post -> post.setTube(0, speed, false));
            refused(RefusalTest::busy, ARGUMENT, "setTube to " + speed + " and open",
                    post -> post.setTube(5, speed, true));
        }
    }

    /** Wrong beginnings of addEntry at the tick 7: first, period and sort. */
    private static final int[][] WRONG_ENTRIES = {{7, 0, 2}, {0, 0, 0}, {-1, 0, 1}, {MIN, 0, 2}, {100001, 0, 0},
        {MAX, 0, 1}, {9, -1, 2}, {9, 501, 0}, {9, MIN, 1}, {9, MAX, 2}, {9, 0, -1}, {9, 0, 3}, {9, 0, MIN},
        {9, 0, MAX}};

    /** Endings of addEntry that name what is not there: sort, what and how. */
    private static final int[][] NAMED_WRONGLY = {{0, -1, -1}, {0, 4, -1}, {0, MIN, 0}, {0, MAX, 0}, {0, 0, -2},
        {0, 0, 2}, {0, 0, MIN}, {0, 0, MAX}, {0, 1, 1}, {1, -1, 0}, {1, 6, 1}, {1, MIN, 0}, {1, MAX, 1}, {1, 0, -1},
        {1, 0, 2}, {1, 0, MIN}, {1, 0, MAX}, {2, -1, 0}, {2, 4, 0}, {2, MIN, 0}, {2, MAX, 0}, {2, 0, -1}, {2, 0, 4},
        {2, 0, MIN}, {2, 0, MAX}, {2, 4, 4}};

    private static void addEntryIs(Supplier<TubePost> maker, Class<? extends RuntimeException> want, int... a) {
        refused(maker, want, "addEntry(" + a[0] + ", " + a[1] + ", " + a[2] + ", " + a[3] + ", " + a[4] + ")",
                post -> post.addEntry(a[0], a[1], a[2], a[3], a[4]));
    }

    private static void addEntry() {
        for (int[] wrong : WRONG_ENTRIES) {
            addEntryIs(RefusalTest::busy, ARGUMENT, wrong[0], wrong[1], wrong[2], 0, 1);
        }
        for (int[] wrong : NAMED_WRONGLY) {
            addEntryIs(RefusalTest::busy, INDEX, 9, 2, wrong[0], wrong[1], wrong[2]);
        }
    }

    private static void addEntryByWhatIsNamedFirst() {
        for (int[] wrong : WRONG_ENTRIES) {
            for (int[] named : NAMED_WRONGLY) {
                boolean isKnownSort = wrong[2] >= 0 && wrong[2] <= 2;
                addEntryIs(RefusalTest::busy, ARGUMENT, wrong[0], wrong[1], isKnownSort ? named[0] : wrong[2],
                        named[1], named[2]);
            }
        }
    }

    private static void addEntryToAFullTimetable() {
        addEntryIs(RefusalTest::fullTimetable, STATE, 8, 0, 0, 0, 0);
        addEntryIs(RefusalTest::fullTimetable, STATE, 8, 1, 1, 0, 0);
        addEntryIs(RefusalTest::fullTimetable, STATE, 100000, 500, 2, 0, 1);
        for (int[] wrong : WRONG_ENTRIES) {
            addEntryIs(RefusalTest::fullTimetable, ARGUMENT, wrong[0], wrong[1], wrong[2], 0, 1);
        }
        for (int[] wrong : NAMED_WRONGLY) {
            addEntryIs(RefusalTest::fullTimetable, INDEX, 8, 0, wrong[0], wrong[1], wrong[2]);
        }
    }

    private static void sendIs(Supplier<TubePost> maker, Class<? extends RuntimeException> want, int... a) {
        refused(maker, want, "send(" + a[0] + ", " + a[1] + ", " + a[2] + ")", post -> post.send(a[0], a[1], a[2]));
    }

    /** Each call that is refused wherever it is made; nothing more can be sent from the station `from`. */
    private static void sendIsRefusedBefore(Supplier<TubePost> maker, int from, int stations) {
        int[] nowhere = {-1, stations, MIN, MAX};
        int[] noRank = {-1, 4, MIN, MAX};
        for (int station : nowhere) {
            sendIs(maker, INDEX, station, 1, 0);
            sendIs(maker, INDEX, from, station, 0);
            sendIs(maker, INDEX, station, station, 0);
            sendIs(maker, INDEX, from, station, 4);
            sendIs(maker, INDEX, station, from, -1);
        }
        sendIs(maker, ARGUMENT, from, from, 0);
        for (int rank : noRank) {
            sendIs(maker, ARGUMENT, from, from == 1 ? 0 : 1, rank);
            sendIs(maker, ARGUMENT, from, from, rank);
        }
    }

    private static void send() {
        sendIsRefusedBefore(RefusalTest::busy, 0, 4);
    }

    private static void sendWithoutRoom() {
        sendIsRefusedBefore(RefusalTest::busy, 2, 4);
        for (int rank = 0; rank <= 3; rank++) {
            sendIs(RefusalTest::busy, STATE, 2, 0, rank);
        }
    }

    private static void sendWithFortyUnderWay() {
        TubePost post = forty();
        Due.same("under way", post.count(5), 40);
        Due.same("station 5 is empty", post.station(5, 4), 0);
        sendIsRefusedBefore(RefusalTest::forty, 5, 6);
        sendIs(RefusalTest::forty, STATE, 5, 0, 0);
        sendIs(RefusalTest::forty, STATE, 5, 1, 3);
    }

    private static void sendBehindFiveHundred() {
        TubePost post = fiveHundred();
        Due.same("sent", post.count(4), 500);
        Due.same("stations have room", post.station(1, 4), 0);
        sendIsRefusedBefore(RefusalTest::fiveHundred, 1, 3);
        sendIs(RefusalTest::fiveHundred, STATE, 0, 1, 3);
        sendIs(RefusalTest::fiveHundred, STATE, 1, 2, 0);
    }

    private static void run() {
        int[] wrong = {0, -1, 501, MIN, MAX};
        for (int ticks : wrong) {
            refused(RefusalTest::busy, ARGUMENT, "run(" + ticks + ")", post -> post.run(ticks));
            refused(RefusalTest::fiveHundred, ARGUMENT, "run(" + ticks + ")", post -> post.run(ticks));
        }
    }

    private static void telling() {
        int[] outside = {-1, 99, MIN, MAX};
        for (int n : outside) {
            refused(RefusalTest::busy, INDEX, "carrier(" + n + ", 0)", post -> post.carrier(n, 0));
            refused(RefusalTest::busy, INDEX, "carrier(0, " + n + ")", post -> post.carrier(0, n));
            refused(RefusalTest::busy, INDEX, "count(" + n + ")", post -> post.count(n));
            refused(RefusalTest::busy, INDEX, "station(" + n + ", 0)", post -> post.station(n, 0));
            refused(RefusalTest::busy, INDEX, "station(0, " + n + ")", post -> post.station(0, n));
            refused(RefusalTest::busy, INDEX, "tube(" + n + ", 0)", post -> post.tube(n, 0));
            refused(RefusalTest::busy, INDEX, "tube(0, " + n + ")", post -> post.tube(0, n));
            refused(RefusalTest::busy, INDEX, "there(" + n + ", 0)", post -> post.there(n, 0));
            refused(RefusalTest::busy, INDEX, "there(0, " + n + ")", post -> post.there(0, n));
            refused(RefusalTest::busy, INDEX, "time(" + n + ", 0)", post -> post.time(n, 0));
            refused(RefusalTest::busy, INDEX, "time(0, " + n + ")", post -> post.time(0, n));
            refused(RefusalTest::busy, INDEX, "next(" + n + ", 0)", post -> post.next(n, 0));
            refused(RefusalTest::busy, INDEX, "next(0, " + n + ")", post -> post.next(0, n));
            refused(RefusalTest::busy, INDEX, "parts(" + n + ")", post -> post.parts(n));
        }
    }
}
