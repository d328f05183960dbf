/** Promises 10 to 17: what is there, ways and the mean (the checksum, promise 18, is ToldTest's). */
public final class TellingTest {
    public static void main(String[] args) {
        count();
        station();
        tube();
        there();
        time();
        timeLeavesOutEnds();
        next();
        parts();
        partsOfAShutTube();
        mean();
        Due.close("TellingTest");
    }

    /** Two stations with a tube there and one back. */
    private static TubePost pair(int room, int handling, int length) {
        TubePost post = new TubePost();
        post.addStation(room, handling);
        post.addStation(room, handling);
        post.addTube(0, 1, length, 1, 8);
        post.addTube(1, 0, length, 1, 8);
        return post;
    }

    private static void count() {
        TubePost post = pair(9, 0, 4);
        post.addEntry(300, 0, 1, 0, 1);
        post.send(0, 1, 0);
        post.send(0, 1, 0);
        post.send(1, 0, 0);
        post.run(5);
        int[] due = {5, 2, 2, 1, 3, 1, 2, 0, 10};
        for (int what = 0; what < due.length; what++) {
            Due.same("count(" + what + ")", post.count(what), due[what]);
        }
        Due.index("count(9)", () -> post.count(9));
        Due.index("count(-1)", () -> post.count(-1));
        post.run(1);
        Due.same("count(8) at 6", post.count(8), 16);
    }

    private static void station() {
        TubePost post = pair(7, 11, 4);
        post.addTube(0, 1, 4, 1, 8);
        post.turn(0, 1);
        post.send(0, 1, 0);
        post.send(0, 1, 0);
        int[] due = {7, 11, 2, 1, 2, 0};
        for (int what = 0; what < due.length; what++) {
            Due.same("station(0, " + what + ")", post.station(0, what), due[what]);
        }
        Due.same("free switch", post.station(1, 3), -1);
        post.run(100);
        Due.same("gone", post.station(0, 4), 0);
        Due.same("delivered at 1", post.station(1, 5), 2);
        Due.same("delivered at 0", post.station(0, 5), 0);
        Due.index("station(2, 0)", () -> post.station(2, 0));
        Due.index("station(-1, 0)", () -> post.station(-1, 0));
        Due.index("station(0, 6)", () -> post.station(0, 6));
        Due.index("station(0, -1)", () -> post.station(0, -1));
    }

    private static void tube() {
        TubePost post = new TubePost();
        post.addStation(9, 0);
        post.addStation(9, 0);
        post.addStation(9, 0);
        post.addTube(2, 1, 50, 3, 5);
        post.send(2, 1, 0);
        post.send(2, 1, 0);
        post.run(2);
        int[] due = {2, 1, 50, 3, 5, 1, 2, 0, 2};
        for (int what = 0; what < due.length; what++) {
            Due.same("tube(0, " + what + ")", post.tube(0, what), due[what]);
        }
        Due.index("tube(1, 0)", () -> post.tube(1, 0));
        Due.index("tube(-1, 0)", () -> post.tube(-1, 0));
        Due.index("tube(0, 9)", () -> post.tube(0, 9));
        Due.index("tube(0, -1)", () -> post.tube(0, -1));
        post.run(100);
        Due.same("in it later", post.tube(0, 6), 0);
        Due.same("entered, later", post.tube(0, 8), 2);
    }

    private static void there() {
        TubePost post = pair(9, 20, 4);
        post.send(0, 1, 1);
        post.send(0, 1, 3);
        post.send(0, 1, 1);
        int[] due = {1, 0, 2};
        for (int i = 0; i < due.length; i++) {
            Due.same("there(0, " + i + ")", post.there(0, i), due[i]);
        }
        Due.index("there(0, 3)", () -> post.there(0, 3));
        Due.index("there(0, -1)", () -> post.there(0, -1));
        Due.index("there(1, 0)", () -> post.there(1, 0));
        Due.index("there(2, 0)", () -> post.there(2, 0));
        Due.index("there(-1, 0)", () -> post.there(-1, 0));
        post.run(20);
        Due.same("behind a departure", post.there(0, 0), 0);
    }

    private static void time() {
        TubePost post = new TubePost();
        for (int i = 0; i < 4; i++) {
            post.addStation(1, 5);
        }
        post.addTube(0, 1, 3, 1, 1);
        post.addTube(1, 2, 3, 1, 1);
        post.addTube(0, 2, 12, 1, 1);
        Due.same("by station 1, with its handling", post.time(0, 2), 11);
        post.setTube(2, 2, true);
        Due.same("straight, as that is faster now", post.time(0, 2), 6);
        post.setTube(2, 2, false);
        Due.same("by station 1 again", post.time(0, 2), 11);
        Due.same("no way back", post.time(2, 0), -1);
        Due.same("no way at all", post.time(0, 3), -1);
        Due.same("to itself", post.time(3, 3), 0);
        // A switch keeps carriers from a way, but not the reckoning.
        post.setTube(2, 1, true);
        post.turn(0, 1);
        Due.same("with a switch", post.time(0, 2), 11);
        Due.same("still no way", post.time(0, 3), -1);
        post.addTube(2, 3, 1, 1, 1);
        Due.same("by a tube that was laid later", post.time(0, 3), 17);
        post.addStation(1, 0);
        post.addTube(3, 4, 1, 1, 1);
        Due.same("to a station that was added later", post.time(0, 4), 23);
        Due.index("time(5, 0)", () -> post.time(5, 0));
        Due.index("time(0, 5)", () -> post.time(0, 5));
        Due.index("time(-1, -1)", () -> post.time(-1, -1));
    }

    private static void timeLeavesOutEnds() {
        TubePost post = new TubePost();
        for (int i = 0; i < 14; i++) {
            post.addStation(1, 20);
        }
        for (int i = 13; i > 0; i--) {
            post.addTube(i, i - 1, 60, 1, 1);
        }
        Due.same("the longest way", post.time(13, 0), 13 * 60 + 12 * 20);
        Due.same("one tube", post.time(13, 12), 60);
        Due.same("one station between", post.time(2, 0), 140);
    }

    private static void next() {
        TubePost post = new TubePost();
        for (int i = 0; i < 4; i++) {
            post.addStation(1, 2);
        }
        post.addTube(1, 0, 1, 1, 1);
        post.addTube(0, 2, 8, 1, 1);
        post.addTube(0, 1, 3, 1, 1);
        post.addTube(1, 2, 3, 1, 1);
        Due.same("the smallest of equal ways", post.next(0, 2), 0);
        post.setTube(3, 2, true);
        Due.same("the faster way", post.next(0, 2), 1);
        post.turn(0, 0);
        Due.same("the switch decides", post.next(0, 2), 0);
        Due.same("also for what it does not lead to", post.next(0, 3), 0);
        Due.same("but not for one that is there", post.next(0, 0), -1);
        post.setTube(1, 1, false);
        Due.same("also at a shut tube", post.next(0, 2), 0);
        post.turn(0, -1);
        Due.same("free, one tube shut", post.next(0, 2), 1);
        post.setTube(2, 1, false);
        Due.same("free, all shut", post.next(0, 2), -1);
        Due.same("no way", post.next(1, 3), -1);
        Due.same("its second way out", post.next(1, 2), 1);
        Due.index("next(4, 0)", () -> post.next(4, 0));
        Due.index("next(0, 4)", () -> post.next(0, 4));
        Due.index("next(-1, 0)", () -> post.next(-1, 0));
        // A full tube is chosen all the same.
        TubePost full = pair(9, 0, 60);
        for (int i = 0; i < 9; i++) {
            full.send(0, 1, 0);
        }
        full.run(8);
        Due.same("full", full.tube(0, 6), 8);
        Due.same("a full tube is the way", full.next(0, 1), 0);
    }

    private static void parts() {
        TubePost post = new TubePost();
        for (int i = 0; i < 5; i++) {
            post.addStation(1, 0);
        }
        for (int i = 0; i < 4; i++) {
            post.addTube(i, i + 1, 1, 1, 1);
        }
        Due.same("the middle of a chain", post.parts(1), 6);
        Due.same("the end of a chain", post.parts(3), 4);
        post.addTube(1, 2, 60, 1, 1);
        Due.same("with another tube beside it", post.parts(1), 0);
        post.setTube(4, 1, false);
        Due.same("with a shut one beside it", post.parts(1), 6);
        post.addTube(4, 0, 1, 1, 1);
        Due.same("in a ring no pair of one station counts", post.parts(1), 4 + 3 + 2 + 1);
        Due.same("still open", post.tube(1, 5), 1);
        Due.same("time as before", post.time(0, 4), 4);
        Due.index("parts(6)", () -> post.parts(6));
        Due.index("parts(-1)", () -> post.parts(-1));
    }

    private static void partsOfAShutTube() {
        TubePost post = pair(1, 0, 1);
        post.setTube(0, 1, false);
        Due.same("a shut tube parts nothing more", post.parts(0), 0);
        Due.same("the other one does", post.parts(1), 1);
        Due.same("still shut", post.tube(0, 5), 0);
    }

    private static void mean() {
        TubePost post = pair(9, 0, 4);
        Due.sameDouble("mean of none", post.mean(), 0.0);
        post.send(0, 1, 0);
        Due.sameDouble("mean of one under way", post.mean(), 0.0);
        post.send(0, 1, 0);
        post.run(5);
        Due.sameDouble("mean of one", post.mean(), 5.0);
        post.run(1);
        Due.sameDouble("mean of two", post.mean(), 5.5);
        post.send(1, 0, 0);
        post.run(10);
        Due.sameDouble("mean of three", post.mean(), 16.0 / 3.0);
    }
}
