/** Promises 1 to 6: a new object, stations, tubes, switches and the timetable. */
public final class NetTest {
    public static void main(String[] args) {
        newObject();
        stations();
        tubes();
        tubeLimits();
        turn();
        setTube();
        entryArguments();
        entryOrderOfExceptions();
        entryLimits();
        clockTurnsSwitches();
        clockOpensAndShuts();
        clockSends();
        clockCannotSend();
        clockKeepsItsOrder();
        Due.close("NetTest");
    }

    private static void newObject() {
        TubePost post = new TubePost();
        for (int what = 0; what <= 8; what++) {
            Due.same("new count(" + what + ")", post.count(what), 0);
        }
        Due.sameDouble("new mean()", post.mean(), 0.0);
        Due.index("new station(0, 0)", () -> post.station(0, 0));
        Due.index("new tube(0, 0)", () -> post.tube(0, 0));
        Due.index("new carrier(0, 0)", () -> post.carrier(0, 0));
        Due.index("new there(0, 0)", () -> post.there(0, 0));
    }

    private static void stations() {
        TubePost post = new TubePost();
        Due.same("addStation(1, 0)", post.addStation(1, 0), 0);
        Due.same("addStation(9, 20)", post.addStation(9, 20), 1);
        Due.argument("addStation(0, 0)", () -> post.addStation(0, 0));
        Due.argument("addStation(10, 0)", () -> post.addStation(10, 0));
        Due.argument("addStation(1, -1)", () -> post.addStation(1, -1));
        Due.argument("addStation(1, 21)", () -> post.addStation(1, 21));
        Due.argument("addStation(min, max)", () -> post.addStation(Integer.MIN_VALUE, Integer.MAX_VALUE));
        Due.same("stations behind refusals", post.count(1), 2);
        for (int i = 2; i < 14; i++) {
            Due.same("addStation " + i, post.addStation(3, 4), i);
        }
        Due.state("15th addStation(1, 1)", () -> post.addStation(1, 1));
        Due.argument("15th addStation(0, 1)", () -> post.addStation(0, 1));
        Due.same("stations", post.count(1), 14);
    }

    private static void tubes() {
        TubePost post = Nets.stations(3, 1, 0);
        Due.same("addTube(0, 1, 1, 1, 1)", post.addTube(0, 1, 1, 1, 1), 0);
        Due.same("addTube(1, 0, 60, 6, 8)", post.addTube(1, 0, 60, 6, 8), 1);
        Due.index("addTube(-1, 1, ..)", () -> post.addTube(-1, 1, 1, 1, 1));
        Due.index("addTube(0, -1, ..)", () -> post.addTube(0, -1, 1, 1, 1));
        Due.index("addTube(3, 1, ..)", () -> post.addTube(3, 1, 1, 1, 1));
        Due.index("addTube(0, 3, ..)", () -> post.addTube(0, 3, 1, 1, 1));
        Due.index("addTube(3, 3, 0, 0, 0)", () -> post.addTube(3, 3, 0, 0, 0));
        Due.argument("addTube(1, 1, ..)", () -> post.addTube(1, 1, 1, 1, 1));
        Due.argument("addTube length 0", () -> post.addTube(0, 1, 0, 1, 1));
        Due.argument("addTube length 61", () -> post.addTube(0, 1, 61, 1, 1));
        Due.argument("addTube speed 0", () -> post.addTube(0, 1, 1, 0, 1));
        Due.argument("addTube speed 7", () -> post.addTube(0, 1, 1, 7, 1));
        Due.argument("addTube bore 0", () -> post.addTube(0, 1, 1, 1, 0));
        Due.argument("addTube bore 9", () -> post.addTube(0, 1, 1, 1, 9));
        Due.same("tubes behind refusals", post.count(2), 2);
        Due.same("ways behind refusals", post.station(0, 2), 1);
        int[] due = {1, 0, 60, 6, 8, 1, 0, 0, 0};
        for (int what = 0; what < due.length; what++) {
            Due.same("tube(1, " + what + ")", post.tube(1, what), due[what]);
        }
    }

    private static void tubeLimits() {
        TubePost post = Nets.stations(14, 1, 0);
        for (int i = 0; i < 4; i++) {
            Due.same("way out " + i, post.addTube(0, 1 + i, 1, 1, 1), i);
        }
        Due.state("5th way out", () -> post.addTube(0, 5, 1, 1, 1));
        Due.argument("5th way out, bore 9", () -> post.addTube(0, 5, 1, 1, 9));
        Due.argument("5th way out, to itself", () -> post.addTube(0, 0, 1, 1, 1));
        Due.same("into a station with 4 ways out", post.addTube(1, 0, 1, 1, 1), 4);
        for (int i = 5; i < 30; i++) {
            int from = 2 + (i - 5) / 3;
            Due.same("tube " + i, post.addTube(from, from == 13 ? 0 : 13, 1, 1, 1), i);
        }
        Due.state("31st tube", () -> post.addTube(12, 0, 1, 1, 1));
        Due.index("31st tube from nowhere", () -> post.addTube(14, 0, 1, 1, 1));
        Due.same("tubes", post.count(2), 30);
    }

    private static void turn() {
        TubePost post = Nets.stations(2, 1, 0);
        post.addTube(0, 1, 1, 1, 1);
        post.addTube(0, 1, 1, 1, 1);
        Due.same("switch at first", post.station(0, 3), -1);
        Due.same("turn(0, 1)", post.turn(0, 1), -1);
        Due.same("switch behind turn(0, 1)", post.station(0, 3), 1);
        Due.same("turn(0, 0)", post.turn(0, 0), 1);
        Due.argument("turn(0, 2)", () -> post.turn(0, 2));
        Due.argument("turn(0, -2)", () -> post.turn(0, -2));
        Due.argument("turn(1, 0)", () -> post.turn(1, 0));
        Due.index("turn(2, 0)", () -> post.turn(2, 0));
        Due.index("turn(-1, -5)", () -> post.turn(-1, -5));
        Due.same("switch behind refusals", post.station(0, 3), 0);
        Due.same("turn(0, -1)", post.turn(0, -1), 0);
        Due.same("turn(1, -1)", post.turn(1, -1), -1);
    }

    private static void setTube() {
        TubePost post = Nets.stations(2, 9, 0);
        post.addTube(0, 1, 12, 3, 2);
        Due.same("setTube(0, 6, false)", post.setTube(0, 6, false), 3);
        Due.same("speed", post.tube(0, 3), 6);
        Due.same("open", post.tube(0, 5), 0);
        Due.same("time by a shut tube", post.time(0, 1), -1);
        Due.same("setTube(0, 1, true)", post.setTube(0, 1, true), 6);
        Due.same("time by an open tube", post.time(0, 1), 12);
        Due.argument("setTube(0, 0, true)", () -> post.setTube(0, 0, true));
        Due.argument("setTube(0, 7, false)", () -> post.setTube(0, 7, false));
        Due.index("setTube(1, 1, true)", () -> post.setTube(1, 1, true));
        Due.index("setTube(-1, 0, true)", () -> post.setTube(-1, 0, true));
        Due.same("speed behind refusals", post.tube(0, 3), 1);
        Due.same("open behind refusals", post.tube(0, 5), 1);
        // A carrier keeps the time that the tube had when it entered, also when the tube is shut behind it.
        post.send(0, 1, 0);
        post.run(1);
        post.setTube(0, 6, false);
        Due.same("run(11)", post.run(11), 0);
        Due.same("run(1)", post.run(1), 1);
        Due.same("delivered at", post.carrier(0, 5), 13);
    }

    private static void entryArguments() {
        TubePost post = Nets.stations(2, 1, 0);
        post.addTube(0, 1, 1, 1, 1);
        post.run(10);
        Due.argument("first 10 at 10", () -> post.addEntry(10, 0, 0, 0, 0));
        Due.argument("first -1", () -> post.addEntry(-1, 0, 0, 0, 0));
        Due.argument("first 100001", () -> post.addEntry(100001, 0, 0, 0, 0));
        Due.argument("period -1", () -> post.addEntry(11, -1, 0, 0, 0));
        Due.argument("period 501", () -> post.addEntry(11, 501, 0, 0, 0));
        Due.argument("sort -1", () -> post.addEntry(11, 0, -1, 0, 0));
        Due.argument("sort 3", () -> post.addEntry(11, 0, 3, 0, 0));
        Due.index("switch of station 2", () -> post.addEntry(11, 0, 0, 2, -1));
        Due.index("switch of station -1", () -> post.addEntry(11, 0, 0, -1, 0));
        Due.index("way 1 of 1", () -> post.addEntry(11, 0, 0, 0, 1));
        Due.index("way -2", () -> post.addEntry(11, 0, 0, 0, -2));
        Due.index("way 0 of none", () -> post.addEntry(11, 0, 0, 1, 0));
        Due.index("tube 1", () -> post.addEntry(11, 0, 1, 1, 0));
        Due.index("tube -1", () -> post.addEntry(11, 0, 1, -1, 0));
        Due.index("tube set to 2", () -> post.addEntry(11, 0, 1, 0, 2));
        Due.index("tube set to -1", () -> post.addEntry(11, 0, 1, 0, -1));
        Due.index("sent from 2", () -> post.addEntry(11, 0, 2, 2, 0));
        Due.index("sent to 2", () -> post.addEntry(11, 0, 2, 0, 2));
        Due.index("sent to -1", () -> post.addEntry(11, 0, 2, 0, -1));
        Due.same("entries behind refusals", post.count(3), 0);
        Due.same("first 11 at 10", post.addEntry(11, 500, 0, 0, 0), 0);
        Due.same("first 100000", post.addEntry(100000, 0, 0, 1, -1), 1);
        Due.same("to itself", post.addEntry(11, 0, 2, 1, 1), 2);
        Due.same("entries", post.count(3), 3);
    }

    private static void entryOrderOfExceptions() {
        TubePost post = Nets.stations(1, 1, 0);
        Due.argument("first 0, no station", () -> post.addEntry(0, 0, 0, 7, 7));
        Due.argument("sort 3, no station", () -> post.addEntry(1, 0, 3, 7, 7));
        for (int i = 0; i < 12; i++) {
            Due.same("entry " + i, post.addEntry(1, 1, 0, 0, -1), i);
        }
        Due.index("13th, no station", () -> post.addEntry(1, 0, 0, 1, 0));
        Due.argument("13th, period 501", () -> post.addEntry(1, 501, 0, 0, -1));
        Due.state("13th", () -> post.addEntry(1, 0, 0, 0, -1));
        Due.same("entries", post.count(3), 12);
    }

    private static void entryLimits() {
        TubePost post = Nets.stations(2, 9, 0);
        for (int i = 0; i < 200; i++) {
            post.run(500);
        }
        Due.same("the tick", post.count(0), 100000);
        Due.argument("first 100000 at 100000", () -> post.addEntry(100000, 0, 2, 0, 1));
        Due.argument("first 100001 at 100000", () -> post.addEntry(100001, 0, 2, 0, 1));
    }

    private static void clockTurnsSwitches() {
        TubePost post = Nets.stations(2, 1, 0);
        post.addTube(0, 1, 1, 1, 1);
        post.addTube(0, 1, 1, 1, 1);
        post.addEntry(3, 4, 0, 0, 1);
        post.addEntry(5, 4, 0, 0, -1);
        post.addEntry(6, 0, 0, 0, 0);
        int[] due = {-1, -1, 1, 1, -1, 0, 1, 1, -1, -1, 1, 1, -1, -1};
        for (int tick = 1; tick <= due.length; tick++) {
            post.run(1);
            Due.same("switch at tick " + tick, post.station(0, 3), due[tick - 1]);
        }
    }

    private static void clockOpensAndShuts() {
        TubePost post = Nets.stations(2, 9, 0);
        post.addTube(0, 1, 10, 5, 1);
        post.addEntry(2, 0, 1, 0, 0);
        post.addEntry(4, 0, 1, 0, 1);
        post.run(1);
        Due.same("time at 1", post.time(0, 1), 2);
        post.run(1);
        Due.same("open at 2", post.tube(0, 5), 0);
        Due.same("speed at 2", post.tube(0, 3), 5);
        Due.same("time at 2", post.time(0, 1), -1);
        Due.same("way at 2", post.next(0, 1), -1);
        post.send(0, 1, 0);
        post.run(1);
        Due.same("stays at 3", post.carrier(0, 0), 1);
        post.run(1);
        Due.same("open at 4", post.tube(0, 5), 1);
        Due.same("goes at 4, as the clock comes first", post.carrier(0, 0), 2);
    }

    private static void clockSends() {
        TubePost post = new TubePost();
        post.addStation(9, 0);
        post.addStation(9, 3);
        post.addTube(0, 1, 1, 1, 1);
        post.addTube(1, 0, 1, 1, 1);
        post.addEntry(2, 0, 2, 0, 1);
        post.addEntry(2, 0, 2, 1, 0);
        post.run(1);
        Due.same("sent at 1", post.count(4), 0);
        post.run(1);
        Due.same("sent at 2", post.count(4), 2);
        int[] due = {2, 0, 1, 1, 2, 2, 1};
        for (int what = 0; what < due.length; what++) {
            Due.same("carrier(0, " + what + ") at 2", post.carrier(0, what), due[what]);
        }
        Due.same("0 is delivered at 3", post.run(1), 1);
        post.run(1);
        Due.same("1 is handled till 5", post.carrier(1, 0), 1);
        post.run(1);
        Due.same("1 goes at 5", post.carrier(1, 0), 2);
    }

    private static void clockCannotSend() {
        TubePost post = Nets.stations(2, 1, 0);
        post.addEntry(1, 1, 2, 0, 0);
        post.addEntry(2, 1, 2, 0, 1);
        post.addEntry(2, 1, 2, 0, 1);
        post.run(1);
        Due.same("nothing to itself", post.count(4), 0);
        post.run(5);
        Due.same("nothing without room", post.count(4), 1);
        Due.same("sent at", post.carrier(0, 4), 2);
    }

    private static void clockKeepsItsOrder() {
        TubePost post = Nets.stations(2, 9, 0);
        post.addTube(0, 1, 1, 1, 1);
        post.addTube(0, 1, 1, 1, 1);
        post.addEntry(1, 1, 0, 0, 0);
        post.addEntry(1, 1, 0, 0, 1);
        post.addEntry(1, 0, 2, 0, 1);
        post.addEntry(1, 0, 2, 0, 1);
        post.run(1);
        Due.same("the later entry holds", post.station(0, 3), 1);
        Due.same("the first one sent goes first", post.carrier(0, 0), 2);
        Due.same("by the way of the later entry", post.carrier(0, 1), 1);
        Due.same("the second one waits", post.there(0, 0), 1);
    }
}
