import java.math.BigInteger;
import java.util.ArrayList;
import java.util.List;

/**
 * What is told (promises 9 to 18): the arguments that are allowed and those just outside, nothing and much to tell,
 * the checksum's wrap-around. Above each test stands the sentence that it is for.
 */
public final class ToldTest {
    public static void main(String[] args) {
        carrierAtItsTurns();
        carrierKnowsItsNumbers();
        fiveHundredCarriersAreKnown();
        countAtItsTurns();
        ticksUnderWayOfDeliveredOnes();
        stationAtItsTurns();
        stationKnowsItsNumbers();
        tubeAtItsTurns();
        tubeKnowsItsNumbers();
        thereKnowsItsNumbers();
        thereOfAFullStation();
        timeToTheSameStation();
        timeWithoutAWay();
        timeIsShortAndLong();
        timeKnowsItsStations();
        nextForOneThatIsThere();
        nextWithoutAWay();
        nextWithASwitch();
        nextKnowsItsStations();
        partsOfAChain();
        partsOfARing();
        partsBesideAnotherTube();
        partsByOpenTubes();
        partsKnowsItsTubes();
        meanOfNone();
        meanIsNoWholeNumber();
        digestOfANewObject();
        digestWrapsAround();
        digestOfManyCarriers();
        tellingChangesNothing();
        Due.close("ToldTest");
    }

    /** From station 0 (handling 2) over station 1 (handling 3) to station 2, by tubes of the length 4 and 5. */
    private static TubePost twoTubes() {
        TubePost post = new TubePost();
        post.addStation(9, 2);
        post.addStation(9, 3);
        post.addStation(9, 0);
        post.addTube(0, 1, 4, 1, 8);
        post.addTube(1, 2, 5, 1, 8);
        return post;
    }

    // "0 1 if it is at a station, 2 if it is in a tube, 3 if it was delivered; 1 the station or tube (its aim, if it
    // was delivered); .. 5 the tick when it came there, or entered the tube, or was delivered; 6 in how many tubes"
    private static void carrierAtItsTurns() {
        int[][] dueFrom = {
            {1, 1, 0, 2, 3, 1, 1, 0},
            {3, 2, 0, 2, 3, 1, 3, 1},
            {6, 2, 0, 2, 3, 1, 3, 1},
            {7, 1, 1, 2, 3, 1, 7, 1},
            {9, 1, 1, 2, 3, 1, 7, 1},
            {10, 2, 1, 2, 3, 1, 10, 2},
            {14, 2, 1, 2, 3, 1, 10, 2},
            {15, 3, 2, 2, 3, 1, 15, 2},
            {99, 3, 2, 2, 3, 1, 15, 2}
        };
        for (int[] row : dueFrom) {
            TubePost post = twoTubes();
            post.run(1);
            post.send(0, 2, 3);
            if (row[0] > 1) {
                post.run(row[0] - 1);
            }
            for (int what = 0; what <= 6; what++) {
                Due.same("at " + row[0] + ", carrier(0, " + what + ")", post.carrier(0, what), row[what + 1]);
            }
            Due.indexOutside("carrier, what", 0, 6, what -> post.carrier(0, what));
        }
    }

    // carrier: "Throws IndexOutOfBoundsException if no carrier has had this number"
    private static void carrierKnowsItsNumbers() {
        TubePost post = twoTubes();
        Due.index("carrier 0 of none", () -> post.carrier(0, 0));
        for (int sent = 1; sent <= 5; sent++) {
            post.send(0, 2, 0);
            Due.indexOutside("carrier of " + sent, 0, sent - 1, carrier -> post.carrier(carrier, 0));
            Due.same("the last one", post.carrier(sent - 1, 0), 1);
        }
        post.run(100);
        Due.same("a delivered one has had its number", post.carrier(0, 0), 3);
        Due.index("behind the last one", () -> post.carrier(5, 0));
    }

    private static void fiveHundredCarriersAreKnown() {
        TubePost post = Nets.chain(2, 9, 0, 1);
        post.addEntry(1, 1, 2, 0, 1);
        post.run(500);
        post.run(2);
        Due.indexOutside("carrier of 500", 0, 499, carrier -> post.carrier(carrier, 4));
        Due.same("mark of the first one", post.carrier(0, 4), 1);
        Due.same("mark of the last one", post.carrier(499, 4), 500);
    }

    // "0 the tick, 1 stations, 2 tubes, 3 entries, 4 carriers that were sent, 5 under way, 6 delivered, 7 tubes that
    // are jammed, 8 the ticks that all delivered ones were under way, together" "or what is not 0 to 8"
    private static void countAtItsTurns() {
        TubePost post = Nets.deadEnd(1, 3);
        post.addEntry(5, 0, 2, 0, 1);
        Due.tells("count at first", post::count, 0, 3, 1, 1, 0, 0, 0, 0, 0);
        post.send(0, 1, 3);
        post.send(0, 2, 0);
        post.send(0, 2, 0);
        Due.tells("count, three sent", post::count, 0, 3, 1, 1, 3, 3, 0, 0, 0);
        post.run(3);
        Due.tells("count at 3", post::count, 3, 3, 1, 1, 3, 3, 0, 0, 0);
        post.run(1);
        Due.tells("count at 4", post::count, 4, 3, 1, 1, 3, 2, 1, 0, 4);
        post.run(1);
        Due.tells("count at 5", post::count, 5, 3, 1, 1, 4, 3, 1, 0, 4);
        post.run(1);
        Due.tells("count at 6", post::count, 6, 3, 1, 1, 4, 3, 1, 1, 4);
        post.addTube(1, 2, 2, 1, 8);
        post.addStation(1, 0);
        post.run(14);
        Due.tells("count at 20", post::count, 20, 4, 2, 1, 4, 0, 4, 0, 4 + 9 + 10 + 3);
    }

    // "8 the ticks that all delivered ones were under way, together": from the mark on, in stations too.
    private static void ticksUnderWayOfDeliveredOnes() {
        TubePost post = twoTubes();
        post.run(7);
        post.send(0, 2, 0);
        post.run(3);
        post.send(0, 1, 0);
        post.run(5);
        Due.same("none is delivered at 15", post.count(8), 0);
        post.run(1);
        Due.same("the second one, sent at 10, at 16", post.count(8), 6);
        post.run(4);
        Due.same("at 20", post.count(8), 6);
        post.run(1);
        Due.same("the first one, sent at 7, at 21", post.count(8), 6 + 14);
        post.run(50);
        Due.same("later", post.count(8), 6 + 14);
    }

    // "0 its room, 1 its handling, 2 its ways out, 3 its switch, -1 if it is free, 4 carriers there, 5 carriers that
    // were delivered there" "or what is not 0 to 5"
    private static void stationAtItsTurns() {
        TubePost post = twoTubes();
        Due.tells("station 0 at first", what -> post.station(0, what), 9, 2, 1, -1, 0, 0);
        post.turn(0, 0);
        post.send(0, 1, 0);
        post.send(0, 2, 0);
        Due.tells("station 0, two sent", what -> post.station(0, what), 9, 2, 1, 0, 2, 0);
        post.run(6);
        Due.tells("station 1 at 6", what -> post.station(1, what), 9, 3, 1, -1, 0, 1);
        post.run(1);
        Due.tells("station 1 at 7", what -> post.station(1, what), 9, 3, 1, -1, 1, 1);
        post.run(3);
        Due.tells("station 1 at 10", what -> post.station(1, what), 9, 3, 1, -1, 0, 1);
        post.run(5);
        Due.tells("station 2 at 15", what -> post.station(2, what), 9, 0, 0, -1, 0, 1);
        Due.tells("station 0 at 15", what -> post.station(0, what), 9, 2, 1, 0, 0, 0);
    }

    // station: "Throws IndexOutOfBoundsException if there is no such station"
    private static void stationKnowsItsNumbers() {
        TubePost post = new TubePost();
        Due.index("station 0 of none", () -> post.station(0, 0));
        for (int many = 1; many <= 14; many++) {
            post.addStation(1 + many % 9, many);
            Due.indexOutside("station of " + many, 0, many - 1, station -> post.station(station, 0));
            Due.same("the last one", post.station(many - 1, 1), many);
        }
    }

    // "0 from where and 1 to where it leads, .. 6 carriers in it, 7 1 if it is jammed .., else 0, 8 how many have
    // entered it" "or what is not 0 to 8"
    private static void tubeAtItsTurns() {
        TubePost post = Nets.stations(3, 1, 0);
        post.addTube(2, 1, 11, 4, 2);
        Due.tells("tube 0 at first", what -> post.tube(0, what), 2, 1, 11, 4, 2, 1, 0, 0, 0);
        post.turn(2, 0);
        post.send(2, 0, 0);
        post.run(1);
        Due.tells("tube 0 at 1", what -> post.tube(0, what), 2, 1, 11, 4, 2, 1, 1, 0, 1);
        post.setTube(0, 6, false);
        Due.tells("tube 0, set", what -> post.tube(0, what), 2, 1, 11, 6, 2, 0, 1, 0, 1);
        post.run(3);
        Due.tells("tube 0 at 4", what -> post.tube(0, what), 2, 1, 11, 6, 2, 0, 0, 0, 1);
        post.setTube(0, 4, true);
        post.send(2, 0, 0);
        post.run(4);
        Due.tells("tube 0 at 8", what -> post.tube(0, what), 2, 1, 11, 4, 2, 1, 1, 1, 2);
        // A jam is told by the time that the carrier has, not by what is set behind its entry.
        post.setTube(0, 1, true);
        Due.tells("tube 0, slower", what -> post.tube(0, what), 2, 1, 11, 1, 2, 1, 1, 1, 2);
    }

    // tube: "Throws IndexOutOfBoundsException if there is no such tube"
    private static void tubeKnowsItsNumbers() {
        TubePost post = Nets.stations(14, 1, 0);
        Due.index("tube 0 of none", () -> post.tube(0, 0));
        for (int many = 1; many <= 30; many++) {
            post.addTube(many % 14, (many + 1) % 14, many, 1, 1);
            Due.indexOutside("tube of " + many, 0, many - 1, tube -> post.tube(tube, 0));
            Due.same("the last one", post.tube(many - 1, 2), many);
        }
    }

    // there: "Throws IndexOutOfBoundsException if there is no such station or carrier"
    private static void thereKnowsItsNumbers() {
        TubePost post = twoTubes();
        for (int many = 0; many <= 3; many++) {
            Due.indexOutside("there of " + many, 0, many - 1, index -> post.there(0, index));
            post.send(0, 1, 0);
        }
        Due.indexOutside("there, station", 0, 2, station -> post.there(station, 0));
        Due.index("nobody at station 1", () -> post.there(1, 0));
        Due.index("nobody at station 2", () -> post.there(2, 0));
        post.run(2);
        Due.same("the next one, as the first one is in its tube", post.there(0, 0), 1);
        Due.index("one less", () -> post.there(0, 3));
        post.run(4);
        Due.index("a delivered one is not there", () -> post.there(1, 0));
        Due.index("all have left", () -> post.there(0, 0));
    }

    // "in the order in which they would depart, from 0 (those that are still handled, too)"
    private static void thereOfAFullStation() {
        TubePost post = Nets.stations(2, 9, 20);
        int[] ranks = {1, 3, 0, 2, 1, 0, 3, 2, 1};
        for (int rank : ranks) {
            post.send(0, 1, rank);
            post.run(1);
        }
        int[] due = {1, 6, 3, 7, 0, 4, 8, 2, 5};
        for (int i = 0; i < 9; i++) {
            Due.same("there(0, " + i + ")", post.there(0, i), due[i]);
        }
        Due.index("there(0, 9)", () -> post.there(0, 9));
        Due.index("there(0, -1)", () -> post.there(0, -1));
    }

    // time: "0 if both are the same": with no tube, and in a ring.
    private static void timeToTheSameStation() {
        TubePost post = Nets.stations(3, 1, 7);
        post.addTube(0, 1, 1, 1, 1);
        post.addTube(1, 0, 1, 1, 1);
        for (int station = 0; station < 3; station++) {
            Due.same("from " + station + " to itself", post.time(station, station), 0);
        }
    }

    // time: "-1 if there is no way"
    private static void timeWithoutAWay() {
        TubePost post = Nets.chain(4, 1, 0, 6);
        Due.same("one way", post.time(0, 3), 18);
        Due.same("not the other one", post.time(3, 0), -1);
        post.setTube(1, 1, false);
        Due.same("a tube on the way is shut", post.time(0, 3), -1);
        Due.same("up to it", post.time(0, 1), 6);
        Due.same("from it on", post.time(2, 3), 6);
        post.addStation(1, 0);
        Due.same("to a station without tubes", post.time(0, 4), -1);
        Due.same("from a station without tubes", post.time(4, 0), -1);
    }

    // From the shortest time, 1, to the longest one, 13 tubes of 60 ticks and 12 handlings of 20.
    private static void timeIsShortAndLong() {
        TubePost post = Nets.stations(14, 1, 20);
        for (int i = 13; i > 0; i--) {
            post.addTube(i, i - 1, 60, 1, 1);
        }
        Due.same("the longest one", post.time(13, 0), 13 * 60 + 12 * 20);
        Due.same("its way", post.next(13, 0), 0);
        post.addTube(13, 0, 1, 6, 1);
        Due.same("the shortest one", post.time(13, 0), 1);
        Due.same("its way", post.next(13, 0), 1);
        Due.same("no way up", post.time(0, 13), -1);
    }

    // time: "Throws IndexOutOfBoundsException if there is no such station"
    private static void timeKnowsItsStations() {
        TubePost none = new TubePost();
        Due.index("time without stations", () -> none.time(0, 0));
        TubePost post = Nets.stations(14, 1, 0);
        Due.indexOutside("time from", 0, 13, from -> post.time(from, 3));
        Due.indexOutside("time to", 0, 13, aim -> post.time(3, aim));
        Due.indexOutside("time from and to", 0, 13, same -> post.time(same, same));
        Due.same("from the first to the last", post.time(0, 13), -1);
        Due.same("from the last to the first", post.time(13, 0), -1);
    }

    // next: "-1 if there is none for it (also if it is there)"
    private static void nextForOneThatIsThere() {
        TubePost post = Nets.chain(2, 1, 0, 3);
        post.addTube(1, 0, 3, 1, 1);
        Due.same("there, free", post.next(0, 0), -1);
        post.turn(0, 0);
        Due.same("there, with a switch", post.next(0, 0), -1);
        Due.same("not there, with a switch", post.next(0, 1), 0);
        Due.same("there, at the other station", post.next(1, 1), -1);
    }

    private static void nextWithoutAWay() {
        TubePost post = Nets.chain(3, 1, 0, 3);
        Due.same("a way", post.next(0, 2), 0);
        Due.same("no way out", post.next(2, 0), -1);
        Due.same("a way out, but not to the aim", post.next(1, 0), -1);
        post.setTube(1, 1, false);
        Due.same("shut farther on", post.next(0, 2), -1);
        Due.same("shut at once", post.next(1, 2), -1);
        Due.same("up to the shut one", post.next(0, 1), 0);
    }

    // "the way out that a carrier there would choose now .., whether it could enter it now or not"
    private static void nextWithASwitch() {
        TubePost post = Nets.chain(3, 9, 0, 3);
        post.addTube(0, 2, 30, 1, 1);
        post.addTube(0, 2, 40, 1, 1);
        for (int way = 0; way <= 2; way++) {
            post.turn(0, way);
            Due.same("the switch at " + way, post.next(0, 2), way);
            Due.same("the switch at " + way + ", for the other aim", post.next(0, 1), way);
        }
        post.setTube(3, 1, false);
        Due.same("at a shut tube", post.next(0, 2), 2);
        post.turn(0, -1);
        Due.same("free", post.next(0, 2), 0);
        post.turn(1, 0);
        Due.same("a switch farther on does not count", post.next(0, 1), 0);
        post.turn(0, 1);
        Nets.send(post, 2, 0, 2, 0);
        post.run(3);
        Due.same("full", post.station(0, 4), 1);
        Due.same("at a full tube", post.next(0, 2), 1);
    }

    // next: "Throws IndexOutOfBoundsException if there is no such station"
    private static void nextKnowsItsStations() {
        TubePost none = new TubePost();
        Due.index("next without stations", () -> none.next(0, 0));
        TubePost post = Nets.stations(14, 1, 0);
        Due.indexOutside("next from", 0, 13, from -> post.next(from, 3));
        Due.indexOutside("next to", 0, 13, aim -> post.next(3, aim));
        Due.indexOutside("next from and to", 0, 13, same -> post.next(same, same));
        Due.same("from the first to the last", post.next(0, 13), -1);
        Due.same("from the last to the first", post.next(13, 0), -1);
    }

    // "how many pairs of stations there are, in this sequence, from the first one of which the second one can be come
    // to by open tubes now, but could not, if this tube were shut"
    private static void partsOfAChain() {
        TubePost post = Nets.chain(14, 1, 0, 1);
        for (int tube = 0; tube < 13; tube++) {
            Due.same("tube " + tube + " of a chain of 14", post.parts(tube), (tube + 1) * (13 - tube));
        }
        // A tube back makes no pair in this sequence anew, but pairs in the other one.
        post.addTube(13, 12, 1, 1, 1);
        Due.same("the chain's last tube", post.parts(12), 13);
        Due.same("the tube back", post.parts(13), 1);
    }

    // In a ring a station is not parted from itself.
    private static void partsOfARing() {
        for (int many = 2; many <= 14; many++) {
            TubePost post = Nets.chain(many, 1, 0, 1);
            post.addTube(many - 1, 0, 1, 1, 1);
            for (int tube = 0; tube < many; tube++) {
                Due.same("tube " + tube + " of a ring of " + many, post.parts(tube), many * (many - 1) / 2);
            }
        }
    }

    private static void partsBesideAnotherTube() {
        TubePost post = Nets.chain(3, 1, 0, 1);
        Due.same("alone", post.parts(0), 2);
        post.addTube(0, 2, 60, 1, 1);
        Due.same("a slow way round it to station 2", post.parts(0), 1);
        Due.same("the way round parts nothing", post.parts(2), 0);
        post.addTube(0, 1, 60, 1, 1);
        Due.same("a tube beside it", post.parts(0), 0);
        Due.same("the tube beside it", post.parts(3), 0);
    }

    private static void partsByOpenTubes() {
        TubePost post = Nets.chain(3, 1, 0, 1);
        post.addTube(0, 1, 60, 1, 1);
        post.setTube(2, 1, false);
        Due.same("the one beside it is shut", post.parts(0), 2);
        Due.same("a shut one parts nothing", post.parts(2), 0);
        post.setTube(1, 1, false);
        Due.same("shut farther on", post.parts(0), 1);
        post.turn(0, 1);
        Due.same("a switch does not count", post.parts(0), 1);
        post.setTube(0, 1, false);
        Due.same("it is shut itself", post.parts(0), 0);
    }

    // parts: "Throws IndexOutOfBoundsException if there is no such tube"
    private static void partsKnowsItsTubes() {
        TubePost post = Nets.stations(14, 1, 0);
        Due.index("parts without tubes", () -> post.parts(0));
        for (int i = 0; i < 30; i++) {
            post.addTube(i % 13, i % 13 + 1, 1, 1, 1);
        }
        Due.indexOutside("parts", 0, 29, post::parts);
        Due.same("the first one has others beside it", post.parts(0), 0);
        Due.same("the last one, too", post.parts(29), 0);
    }

    // mean: "0 if there are none"
    private static void meanOfNone() {
        TubePost post = Nets.chain(2, 1, 0, 2);
        Due.sameDouble("none is sent", post.mean(), 0.0);
        post.send(0, 1, 0);
        post.run(2);
        Due.sameDouble("one is under way", post.mean(), 0.0);
        post.run(1);
        Due.sameDouble("one is delivered", post.mean(), 3.0);
    }

    // "divided by their number": not cut towards 0, as it is a double.
    private static void meanIsNoWholeNumber() {
        TubePost post = Nets.chain(2, 9, 0, 1);
        Nets.send(post, 7, 0, 1, 0);
        int sum = 0;
        post.run(1);
        for (int i = 1; i <= 7; i++) {
            post.run(1);
            sum += i + 1;
            Due.sameDouble("mean of " + i, post.mean(), (double) sum / i);
        }
        post.run(10);
        post.send(0, 1, 0);
        post.run(2);
        Due.sameDouble("mean of 8", post.mean(), (35.0 + 2.0) / 8.0);
        TubePost thirds = Nets.chain(2, 9, 0, 1);
        thirds.send(0, 1, 0);
        thirds.run(2);
        Nets.send(thirds, 2, 0, 1, 0);
        thirds.run(3);
        Due.sameDouble("mean of 2, 2 and 3, as near as a double is", thirds.mean(), 7.0 / 3.0);
    }

    // "A number d starts with 457": of a new object there are the nine counts alone, all 0.
    private static void digestOfANewObject() {
        Due.same("457 * 31^9", new TubePost().digest(), 457L * 961L * 961L * 961L * 961L * 31L);
    }

    // "which wraps around as a 64-bit integer": from the first station on, d is too great for it.
    private static void digestWrapsAround() {
        TubePost post = new TubePost();
        BigInteger whole = wholeDigest(post);
        Due.same("without stations it does not wrap", whole.bitLength() <= 63 ? 1 : 0, 1);
        Due.same("digest without stations", post.digest(), whole.longValueExact());
        post.addStation(1, 0);
        whole = wholeDigest(post);
        Due.same("with one station it does", whole.bitLength() > 63 ? 1 : 0, 1);
        Due.same("digest with one station", post.digest(), whole.longValue());
        post.turn(0, -1);
        Due.same("a switch that is free counts as -1", post.digest(), wholeDigest(post).longValue());
    }

    private static void digestOfManyCarriers() {
        for (int ticks = 1; ticks <= 45; ticks++) {
            TubePost post = Nets.deadEnd(2, 3);
            post.addTube(1, 0, 4, 3, 1);
            post.addEntry(1, 2, 2, 0, 1);
            post.addEntry(3, 5, 2, 0, 2);
            post.addEntry(4, 3, 2, 1, 0);
            for (int rank = 0; rank <= 3; rank++) {
                post.send(0, 2 - rank % 2, rank);
            }
            post.run(ticks);
            Due.same("digest at " + ticks, post.digest(), wholeDigest(post).longValue());
        }
    }

    /** The checksum as the document tells it, but never wrapped. */
    private static BigInteger wholeDigest(TubePost post) {
        List<Integer> numbers = new ArrayList<>();
        for (int what = 0; what <= 8; what++) {
            numbers.add(post.count(what));
        }
        for (int station = 0; station < numbers.get(1); station++) {
            for (int what = 0; what <= 5; what++) {
                numbers.add(post.station(station, what));
            }
            int many = numbers.get(numbers.size() - 2);
            for (int index = 0; index < many; index++) {
                numbers.add(post.there(station, index));
            }
        }
        for (int tube = 0; tube < numbers.get(2); tube++) {
            for (int what = 0; what <= 8; what++) {
                numbers.add(post.tube(tube, what));
            }
        }
        for (int carrier = 0; carrier < numbers.get(4); carrier++) {
            for (int what = 0; what <= 6; what++) {
                numbers.add(post.carrier(carrier, what));
            }
        }
        BigInteger d = BigInteger.valueOf(457);
        for (int number : numbers) {
            d = d.multiply(BigInteger.valueOf(31)).add(BigInteger.valueOf(number));
        }
        return d;
    }

    // "Nothing is promised beyond the answers and state changes described": asking is none.
    private static void tellingChangesNothing() {
        TubePost asked = Nets.chain(3, 2, 1, 4);
        TubePost twin = Nets.chain(3, 2, 1, 4);
        Nets.send(asked, 2, 0, 2, 0);
        Nets.send(twin, 2, 0, 2, 0);
        for (int i = 0; i < 20; i++) {
            asked.parts(i % 2);
            asked.time(i % 3, 2);
            asked.next(i % 3, 2);
            asked.mean();
            asked.carrier(0, i % 7);
            asked.tube(0, i % 9);
            asked.station(0, i % 6);
            asked.count(i % 9);
            asked.digest();
            Due.same("delivered at " + (i + 1), asked.run(1), twin.run(1));
            Due.same("digest at " + (i + 1), asked.digest(), twin.digest());
        }
    }
}
