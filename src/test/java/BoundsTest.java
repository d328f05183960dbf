/**
 * The bounds of stations, tubes, letters, entries and ticks (Terms and promises 1 to 8), each from both sides: the
 * last value that is allowed, and the first one that is not. Above each test stands the sentence that it is for.
 */
public final class BoundsTest {
    private static final int FAR = Integer.MAX_VALUE;

    public static void main(String[] args) {
        timeBeginsAt0();
        stationsAreAtMost14();
        roomIs1To9();
        handlingIs0To20();
        waysOutAreAtMost4();
        waysOutAreCountedForEachStation();
        waysAreNumberedAsTheyWereLaid();
        switchStandsAtAWayOrIsFree();
        tubesAreAtMost30();
        tubeNeedsTwoStations();
        tubeLeadsOneWay();
        lengthIs1To60();
        speedIs1To6();
        boreIs1To8();
        tubeIsOpenAtFirst();
        turnKnowsItsStations();
        setTubeKnowsItsTubes();
        setTubeTakesSpeeds1To6();
        firstTickLiesAhead();
        firstTickIsAtMost100000();
        periodIs0To500();
        sortIs0To2();
        entryForASwitch();
        entryForATube();
        entryForASending();
        entriesAreAtMost12();
        sendKnowsItsStations();
        sendGoesToAnotherStation();
        rankIs0To3();
        carriersAreNumberedAsTheyWereSent();
        markIsTheTickOfSending();
        stationTakesAsManyAsItsRoom();
        roomIsForThoseThatAreStillThere();
        fortyByHand();
        fortyByTheClock();
        fortyInTubesAndAtStations();
        fiveHundredByHand();
        fiveHundredByTheClock();
        runTakes1To500();
        runTellsWhatItDelivered();
        fiveHundredAndTwelveCalls();
        Due.close("BoundsTest");
    }

    // "Creates a post office without stations and tubes, at the tick 0." "Time is told in ticks, from 0."
    private static void timeBeginsAt0() {
        TubePost post = new TubePost();
        Due.tells("count of a new object", post::count, 0, 0, 0, 0, 0, 0, 0, 0, 0);
        Due.index("the first station", () -> post.station(0, 0));
        Due.index("the first tube", () -> post.tube(0, 0));
        Due.index("the first carrier", () -> post.carrier(0, 0));
        post.run(1);
        Due.same("the tick behind one", post.count(0), 1);
    }

    // "There are at most 14, numbered from 0 in the order of their creation."
    // "Throws IllegalStateException if there are 14"
    private static void stationsAreAtMost14() {
        TubePost post = new TubePost();
        for (int i = 0; i < 14; i++) {
            Due.same("station " + i, post.addStation(1 + i % 9, i), i);
        }
        Due.state("station 14", () -> post.addStation(1, 0));
        Due.same("stations", post.count(1), 14);
        for (int i = 0; i < 14; i++) {
            Due.same("room of station " + i, post.station(i, 0), 1 + i % 9);
            Due.same("handling of station " + i, post.station(i, 1), i);
        }
    }

    // "A station has a room for 1 to 9 carriers" "Throws IllegalArgumentException if room is not 1 to 9"
    private static void roomIs1To9() {
        TubePost post = new TubePost();
        Due.argumentOutside("room", 1, 9, room -> post.addStation(room, 0));
        Due.same("stations behind refusals", post.count(1), 0);
        for (int room = 1; room <= 9; room++) {
            Due.same("addStation, room " + room, post.addStation(room, 0), room - 1);
            Due.same("its room", post.station(room - 1, 0), room);
        }
    }

    // "a time of handling, 0 to 20" "Throws IllegalArgumentException if .. handling is not 0 to 20"
    private static void handlingIs0To20() {
        TubePost refusing = new TubePost();
        Due.argumentOutside("handling", 0, 20, handling -> refusing.addStation(1, handling));
        Due.same("stations behind refusals", refusing.count(1), 0);
        for (int handling = 0; handling <= 20; handling++) {
            TubePost post = new TubePost();
            Due.same("addStation, handling " + handling, post.addStation(1, handling), 0);
            Due.same("its handling", post.station(0, 1), handling);
        }
    }

    // "at most 4 ways out" "Throws IllegalStateException if .. the station from which it leads has 4 ways out"
    private static void waysOutAreAtMost4() {
        TubePost post = Nets.stations(6, 1, 0);
        for (int way = 0; way < 4; way++) {
            Due.same("ways out", post.station(5, 2), way);
            Due.same("way out " + way, post.addTube(5, way, 1, 1, 1), way);
        }
        Due.state("way out 4", () -> post.addTube(5, 4, 1, 1, 1));
        Due.same("ways out at the end", post.station(5, 2), 4);
        Due.same("tubes", post.count(2), 4);
    }

    // The 4 ways out are those of the station from which a tube leads; tubes that lead to it do not count.
    private static void waysOutAreCountedForEachStation() {
        TubePost post = Nets.stations(6, 1, 0);
        for (int i = 1; i < 6; i++) {
            Due.same("into station 0, tube " + (i - 1), post.addTube(i, 0, 1, 1, 1), i - 1);
        }
        Due.same("no way out of it", post.station(0, 2), 0);
        for (int i = 1; i < 5; i++) {
            Due.same("out of it, tube " + (i + 4), post.addTube(0, i, 1, 1, 1), i + 4);
        }
        Due.state("a 5th way out of it", () -> post.addTube(0, 5, 1, 1, 1));
        Due.same("a 6th tube into it", post.addTube(1, 0, 1, 1, 1), 9);
    }

    // "ways out, numbered from 0: tubes in the order in which they were laid"
    private static void waysAreNumberedAsTheyWereLaid() {
        for (int way = 0; way < 4; way++) {
            TubePost post = Nets.stations(6, 1, 0);
            for (int i = 0; i < 4; i++) {
                post.addTube(5, 4 - i, 1, 1, 1);
                post.addTube(i, 5, 1, 1, 1);
            }
            post.turn(5, way);
            post.send(5, 0, 0);
            post.run(1);
            Due.same("the tube at way " + way, post.carrier(0, 1), 2 * way);
            Due.same("where it leads", post.tube(2 * way, 1), 4 - way);
        }
    }

    // "Its switch stands at one of its ways out, or is free (free, at first)."
    // "Throws IllegalArgumentException if way is not -1 to the number of its ways out less 1"
    private static void switchStandsAtAWayOrIsFree() {
        TubePost post = Nets.stations(2, 1, 0);
        Due.same("the switch at first", post.station(0, 3), -1);
        for (int ways = 0; ways <= 4; ways++) {
            Due.argumentOutside("turn with " + ways + " ways", -1, ways - 1, way -> post.turn(0, way));
            int before = -1;
            for (int way = ways - 1; way >= -1; way--) {
                Due.same("turn(0, " + way + ") with " + ways + " ways", post.turn(0, way), before);
                Due.same("the switch", post.station(0, 3), way);
                before = way;
            }
            if (ways < 4) {
                post.addTube(0, 1, 1, 1, 1);
                Due.same("a new way does not turn the switch", post.station(0, 3), -1);
            }
        }
        Due.same("the other switch", post.station(1, 3), -1);
    }

    // "Tubes. There are at most 30, numbered likewise" "Throws IllegalStateException if there are 30"
    private static void tubesAreAtMost30() {
        TubePost post = Nets.stations(14, 1, 0);
        for (int i = 0; i < 30; i++) {
            Due.same("tube " + i, post.addTube(i % 14, (i + 1) % 14, 1 + i, 1 + i % 6, 1 + i % 8), i);
        }
        Due.same("ways out of station 5", post.station(5, 2), 2);
        Due.state("tube 30", () -> post.addTube(5, 6, 1, 1, 1));
        Due.same("tubes", post.count(2), 30);
        Due.same("ways out of station 5 still", post.station(5, 2), 2);
        for (int i = 0; i < 30; i++) {
            Due.same("length of tube " + i, post.tube(i, 2), 1 + i);
        }
    }

    // "Throws IndexOutOfBoundsException if there is no such station" "IllegalArgumentException if both are the same"
    private static void tubeNeedsTwoStations() {
        TubePost post = Nets.stations(3, 1, 0);
        Due.indexOutside("addTube from", 0, 2, from -> post.addTube(from, 1, 1, 1, 1));
        Due.indexOutside("addTube to", 0, 2, to -> post.addTube(1, to, 1, 1, 1));
        for (int i = 0; i < 3; i++) {
            int same = i;
            Due.argument("from " + i + " to itself", () -> post.addTube(same, same, 1, 1, 1));
        }
        Due.same("tubes behind refusals", post.count(2), 0);
        Due.same("from the first to the last", post.addTube(0, 2, 1, 1, 1), 0);
        Due.same("from the last to the first", post.addTube(2, 0, 1, 1, 1), 1);
        Due.same("to the next one", post.addTube(0, 1, 1, 1, 1), 2);
        Due.same("once more between the same two", post.addTube(0, 2, 1, 1, 1), 3);
    }

    // "a tube leads from a station to another one, one way"
    private static void tubeLeadsOneWay() {
        TubePost post = Nets.chain(2, 1, 0, 5);
        post.send(1, 0, 0);
        Due.same("along the tube", post.time(0, 1), 5);
        Due.same("against it", post.time(1, 0), -1);
        post.run(20);
        Due.same("it stays", post.carrier(0, 0), 1);
        post.addTube(1, 0, 5, 1, 1);
        Due.same("a tube back takes it", post.run(6), 1);
    }

    // "It has a length, 1 to 60 (so many ticks a carrier needs at the speed 1)"
    private static void lengthIs1To60() {
        TubePost refusing = Nets.stations(2, 1, 0);
        Due.argumentOutside("length", 1, 60, length -> refusing.addTube(0, 1, length, 1, 1));
        Due.same("tubes behind refusals", refusing.count(2), 0);
        for (int length = 1; length <= 60; length++) {
            TubePost post = Nets.stations(2, 1, 0);
            Due.same("addTube, length " + length, post.addTube(0, 1, length, 1, 1), 0);
            Due.same("its length", post.tube(0, 2), length);
            post.send(0, 1, 0);
            Due.same("a tick too early", post.run(length), 0);
            Due.same("in the tick", post.run(1), 1);
        }
    }

    // "a speed, 1 to 6"
    private static void speedIs1To6() {
        TubePost refusing = Nets.stations(2, 1, 0);
        Due.argumentOutside("speed", 1, 6, speed -> refusing.addTube(0, 1, 1, speed, 1));
        Due.same("tubes behind refusals", refusing.count(2), 0);
        for (int speed = 1; speed <= 6; speed++) {
            TubePost post = Nets.stations(2, 1, 0);
            Due.same("addTube, speed " + speed, post.addTube(0, 1, 60, speed, 1), 0);
            Due.same("its speed", post.tube(0, 3), speed);
            Due.same("the time through it", post.time(0, 1), 60 / speed);
        }
    }

    // "and a bore: how many carriers can be in it, 1 to 8" (how it fills is WayTest's)
    private static void boreIs1To8() {
        TubePost refusing = Nets.stations(2, 1, 0);
        Due.argumentOutside("bore", 1, 8, bore -> refusing.addTube(0, 1, 1, 1, bore));
        Due.same("tubes behind refusals", refusing.count(2), 0);
        for (int bore = 1; bore <= 8; bore++) {
            TubePost post = Nets.stations(2, 1, 0);
            Due.same("addTube, bore " + bore, post.addTube(0, 1, 1, 1, bore), 0);
            Due.same("its bore", post.tube(0, 4), bore);
        }
    }

    // "A tube is open or shut (open, at first)."
    private static void tubeIsOpenAtFirst() {
        TubePost post = Nets.chain(2, 1, 0, 1);
        Due.same("open at first", post.tube(0, 5), 1);
        post.setTube(0, 1, false);
        Due.same("shut", post.tube(0, 5), 0);
        post.setTube(0, 1, false);
        Due.same("shut once more", post.tube(0, 5), 0);
        post.setTube(0, 1, true);
        Due.same("open again", post.tube(0, 5), 1);
    }

    // turn: "Throws IndexOutOfBoundsException if there is no such station"
    private static void turnKnowsItsStations() {
        TubePost none = new TubePost();
        Due.index("turn without stations", () -> none.turn(0, -1));
        TubePost post = Nets.stations(14, 1, 0);
        Due.indexOutside("turn", 0, 13, station -> post.turn(station, -1));
        Due.same("the first one", post.turn(0, -1), -1);
        Due.same("the last one", post.turn(13, -1), -1);
    }

    // setTube: "Throws IndexOutOfBoundsException if there is no such tube"
    private static void setTubeKnowsItsTubes() {
        TubePost post = Nets.stations(2, 1, 0);
        Due.index("setTube without tubes", () -> post.setTube(0, 1, true));
        post.addTube(0, 1, 1, 2, 1);
        post.addTube(1, 0, 1, 3, 1);
        Due.indexOutside("setTube", 0, 1, tube -> post.setTube(tube, 1, false));
        Due.same("the first one, the speed before", post.setTube(0, 4, false), 2);
        Due.same("the last one, the speed before", post.setTube(1, 5, true), 3);
        Due.same("only the first one is shut", post.tube(0, 5), 0);
        Due.same("the last one is open", post.tube(1, 5), 1);
    }

    // setTube: "Throws IllegalArgumentException if speed is not 1 to 6"
    private static void setTubeTakesSpeeds1To6() {
        TubePost post = Nets.chain(2, 1, 0, 60);
        Due.argumentOutside("setTube, speed", 1, 6, speed -> post.setTube(0, speed, false));
        Due.same("the speed behind refusals", post.tube(0, 3), 1);
        Due.same("open behind refusals", post.tube(0, 5), 1);
        int before = 1;
        for (int speed = 1; speed <= 6; speed++) {
            Due.same("setTube, speed " + speed, post.setTube(0, speed, true), before);
            Due.same("the time through it", post.time(0, 1), 60 / speed);
            before = speed;
        }
    }

    // "Throws IllegalArgumentException if first is not greater than the tick that is now"
    private static void firstTickLiesAhead() {
        TubePost post = Nets.stations(2, 1, 0);
        Due.argument("first -1 at 0", () -> post.addEntry(-1, 0, 2, 0, 1));
        Due.argument("first 0 at 0", () -> post.addEntry(0, 0, 2, 0, 1));
        Due.same("first 1 at 0", post.addEntry(1, 0, 0, 0, -1), 0);
        post.run(1);
        Due.argument("first 1 at 1", () -> post.addEntry(1, 0, 2, 0, 1));
        Due.same("first 2 at 1", post.addEntry(2, 0, 0, 0, -1), 1);
        post.run(499);
        Due.argument("first 499 at 500", () -> post.addEntry(499, 0, 2, 0, 1));
        Due.argument("first 500 at 500", () -> post.addEntry(500, 0, 2, 0, 1));
        Due.same("first 501 at 500", post.addEntry(501, 0, 0, 0, -1), 2);
        Due.argument("first MIN_VALUE", () -> post.addEntry(Integer.MIN_VALUE, 0, 2, 0, 1));
        Due.same("entries", post.count(3), 3);
    }

    // "or greater than 100000"
    private static void firstTickIsAtMost100000() {
        TubePost post = Nets.stations(2, 1, 0);
        Due.argument("first 100001 at 0", () -> post.addEntry(100001, 0, 2, 0, 1));
        Due.argument("first MAX_VALUE", () -> post.addEntry(FAR, 0, 2, 0, 1));
        Due.same("first 100000 at 0", post.addEntry(100000, 0, 0, 0, -1), 0);
        for (int i = 0; i < 199; i++) {
            post.run(500);
        }
        post.run(499);
        Due.argument("first 99999 at 99999", () -> post.addEntry(99999, 0, 2, 0, 1));
        Due.same("first 100000 at 99999", post.addEntry(100000, 0, 0, 0, -1), 1);
        post.run(1);
        Due.argument("first 100000 at 100000", () -> post.addEntry(100000, 0, 2, 0, 1));
        Due.argument("first 100001 at 100000", () -> post.addEntry(100001, 0, 2, 0, 1));
        post.run(1);
        Due.argument("first 100002 at 100001", () -> post.addEntry(100002, 0, 2, 0, 1));
        Due.same("entries", post.count(3), 2);
    }

    // "a period, 0 to 500"
    private static void periodIs0To500() {
        TubePost post = Nets.stations(2, 1, 0);
        Due.argumentOutside("period", 0, 500, period -> post.addEntry(1, period, 2, 0, 1));
        Due.same("entries behind refusals", post.count(3), 0);
        Due.same("period 0", post.addEntry(1, 0, 0, 0, -1), 0);
        Due.same("period 1", post.addEntry(1, 1, 0, 0, -1), 1);
        Due.same("period 499", post.addEntry(1, 499, 0, 0, -1), 2);
        Due.same("period 500", post.addEntry(1, 500, 0, 0, -1), 3);
    }

    // "what it does, 0 to 2"
    private static void sortIs0To2() {
        TubePost post = Nets.chain(2, 1, 0, 1);
        Due.argumentOutside("sort", 0, 2, sort -> post.addEntry(1, 0, sort, 0, 0));
        Due.same("entries behind refusals", post.count(3), 0);
        for (int sort = 0; sort <= 2; sort++) {
            Due.same("sort " + sort, post.addEntry(1, 0, sort, 0, 0), sort);
        }
    }

    // "Throws IndexOutOfBoundsException if there is no such station, .. way": a switch
    private static void entryForASwitch() {
        TubePost post = Nets.stations(3, 1, 0);
        for (int ways = 0; ways <= 2; ways++) {
            Due.indexOutside("way of " + ways, -1, ways - 1, way -> post.addEntry(1, 0, 0, 2, way));
            post.addTube(2, 1, 1, 1, 1);
        }
        Due.indexOutside("station", 0, 2, station -> post.addEntry(1, 0, 0, station, -1));
        Due.same("entries behind refusals", post.count(3), 0);
        Due.same("free", post.addEntry(1, 0, 0, 2, -1), 0);
        Due.same("the first way", post.addEntry(1, 0, 0, 2, 0), 1);
        Due.same("the last way", post.addEntry(1, 0, 0, 2, 2), 2);
        Due.same("the first station, free", post.addEntry(1, 0, 0, 0, -1), 3);
        Due.index("the first station has no way", () -> post.addEntry(1, 0, 0, 0, 0));
    }

    // "Throws IndexOutOfBoundsException if there is no such .. tube .., or how is not 0 or 1 for a tube"
    private static void entryForATube() {
        TubePost post = Nets.stations(3, 1, 0);
        Due.index("no tube yet", () -> post.addEntry(1, 0, 1, 0, 1));
        post.addTube(0, 1, 1, 1, 1);
        post.addTube(1, 2, 1, 1, 1);
        Due.indexOutside("tube", 0, 1, tube -> post.addEntry(1, 0, 1, tube, 1));
        Due.indexOutside("open or shut", 0, 1, how -> post.addEntry(1, 0, 1, 0, how));
        Due.same("entries behind refusals", post.count(3), 0);
        Due.same("shut the first one", post.addEntry(1, 0, 1, 0, 0), 0);
        Due.same("open the last one", post.addEntry(1, 0, 1, 1, 1), 1);
    }

    // "Throws IndexOutOfBoundsException if there is no such station, .. or aim"; that both are the same is not refused
    private static void entryForASending() {
        TubePost post = Nets.stations(3, 1, 0);
        Due.indexOutside("from", 0, 2, from -> post.addEntry(1, 0, 2, from, 1));
        Due.indexOutside("aim", 0, 2, aim -> post.addEntry(1, 0, 2, 1, aim));
        Due.same("entries behind refusals", post.count(3), 0);
        Due.same("from the first to the last", post.addEntry(1, 0, 2, 0, 2), 0);
        Due.same("from the last to the first", post.addEntry(1, 0, 2, 2, 0), 1);
        Due.same("to itself", post.addEntry(1, 0, 2, 1, 1), 2);
    }

    // "A timetable has at most 12 entries" "Throws IllegalStateException if there are 12"
    private static void entriesAreAtMost12() {
        TubePost post = Nets.stations(2, 9, 0);
        for (int i = 0; i < 12; i++) {
            Due.same("entry " + i, post.addEntry(1, 0, 2, 0, 1), i);
        }
        Due.state("entry 12", () -> post.addEntry(1, 0, 2, 0, 1));
        Due.same("entries", post.count(3), 12);
        post.run(5);
        Due.state("entry 12, though the others have had their tick", () -> post.addEntry(6, 0, 2, 0, 1));
        Due.same("entries still", post.count(3), 12);
    }

    // send: "Throws IndexOutOfBoundsException if there is no such station"
    private static void sendKnowsItsStations() {
        TubePost post = Nets.stations(14, 1, 0);
        Due.indexOutside("send from", 0, 13, from -> post.send(from, 5, 0));
        Due.indexOutside("send to", 0, 13, aim -> post.send(5, aim, 0));
        Due.same("sent behind refusals", post.count(4), 0);
        Due.same("from the first to the last", post.send(0, 13, 0), 0);
        Due.same("from the last to the first", post.send(13, 0, 0), 1);
    }

    // send: "Throws IllegalArgumentException if both are the same"
    private static void sendGoesToAnotherStation() {
        TubePost post = Nets.stations(3, 9, 0);
        for (int i = 0; i < 3; i++) {
            int same = i;
            Due.argument("from " + i + " to itself", () -> post.send(same, same, 1));
        }
        Due.same("sent behind refusals", post.count(4), 0);
        Due.same("to the one before", post.send(1, 0, 1), 0);
        Due.same("to the one behind", post.send(1, 2, 1), 1);
    }

    // "a rank, 0 to 3 (3 the most urgent)"
    private static void rankIs0To3() {
        TubePost post = Nets.stations(2, 9, 0);
        Due.argumentOutside("rank", 0, 3, rank -> post.send(0, 1, rank));
        Due.same("sent behind refusals", post.count(4), 0);
        for (int rank = 0; rank <= 3; rank++) {
            Due.same("send, rank " + rank, post.send(0, 1, rank), rank);
            Due.same("its rank", post.carrier(rank, 3), rank);
            Due.same("the most urgent one is first", post.there(0, 0), rank);
        }
    }

    // "A carrier has a number, from 0 on, in the order in which they were sent"
    private static void carriersAreNumberedAsTheyWereSent() {
        TubePost post = Nets.stations(3, 1, 0);
        post.addEntry(1, 0, 2, 1, 2);
        post.addEntry(1, 0, 2, 1, 0);
        Due.same("by hand", post.send(0, 1, 3), 0);
        Due.state("refused", () -> post.send(0, 1, 3));
        post.run(1);
        Due.same("by the clock, and one that could not be sent", post.count(4), 2);
        Due.same("the aim of the second one", post.carrier(1, 2), 2);
        Due.same("by hand again", post.send(2, 0, 0), 2);
        Due.same("its aim", post.carrier(2, 2), 0);
    }

    // "and a mark of the tick when it was sent"
    private static void markIsTheTickOfSending() {
        TubePost post = Nets.chain(2, 9, 0, 3);
        post.addEntry(2, 0, 2, 0, 1);
        post.send(0, 1, 0);
        post.run(2);
        post.send(0, 1, 0);
        post.run(1);
        post.send(0, 1, 0);
        int[] due = {0, 2, 2, 3};
        for (int i = 0; i < due.length; i++) {
            Due.same("mark of carrier " + i, post.carrier(i, 4), due[i]);
        }
        post.run(20);
        for (int i = 0; i < due.length; i++) {
            Due.same("mark of carrier " + i + ", delivered", post.carrier(i, 4), due[i]);
        }
    }

    // "a room for 1 to 9 carriers" send: "Throws IllegalStateException if there is no room"
    private static void stationTakesAsManyAsItsRoom() {
        for (int room = 1; room <= 9; room++) {
            TubePost post = Nets.stations(2, room, 0);
            for (int i = 0; i < room; i++) {
                Due.same("carrier " + i + " of room " + room, post.send(0, 1, 0), i);
            }
            Due.state("one more than the room " + room, () -> post.send(0, 1, 3));
            Due.same("there", post.station(0, 4), room);
            Due.same("sent", post.count(4), room);
        }
    }

    // "fewer carriers are there (handled or waiting) than its room": who has left takes none.
    private static void roomIsForThoseThatAreStillThere() {
        TubePost post = Nets.chain(2, 1, 5, 3);
        post.send(0, 1, 0);
        post.run(4);
        Due.state("it is still handled", () -> post.send(0, 1, 0));
        post.setTube(0, 1, false);
        post.run(1);
        Due.state("it waits", () -> post.send(0, 1, 0));
        post.setTube(0, 1, true);
        post.run(1);
        Due.same("it has left", post.send(0, 1, 0), 1);
    }

    // "At most 40 are under way at a time" send: "Throws IllegalStateException if .. 40 are under way"
    private static void fortyByHand() {
        TubePost post = Nets.stations(6, 8, 0);
        post.addTube(0, 1, 1, 1, 1);
        for (int i = 0; i < 40; i++) {
            Due.same("carrier " + i, post.send(i / 8, (i / 8 + 1) % 5, 0), i);
        }
        Due.same("under way", post.count(5), 40);
        Due.state("carrier 40", () -> post.send(5, 0, 0));
        Due.same("one is delivered in two ticks", post.run(2), 1);
        Due.same("under way then", post.count(5), 39);
        Due.same("carrier 40, as one was delivered", post.send(5, 0, 0), 40);
        Due.state("carrier 41", () -> post.send(5, 0, 0));
        Due.same("under way at the end", post.count(5), 40);
    }

    // "2 sends a carrier .. (nothing, if it cannot be sent)": the 40th yes, the 41st not.
    private static void fortyByTheClock() {
        TubePost post = Nets.stations(6, 8, 0);
        for (int i = 0; i < 39; i++) {
            post.send(i / 8, 5, 0);
        }
        post.addEntry(1, 0, 2, 5, 3);
        post.addEntry(1, 0, 2, 5, 4);
        post.run(1);
        Due.same("under way", post.count(5), 40);
        Due.same("the first entry's", post.carrier(39, 2), 3);
        Due.same("at the station", post.station(5, 4), 1);
    }

    // Under way are those in tubes too, and no more those that were delivered.
    private static void fortyInTubesAndAtStations() {
        TubePost post = Nets.stations(5, 9, 0);
        for (int i = 0; i < 4; i++) {
            post.addTube(i, 4, 60, 1, 8);
            Nets.send(post, 9, i, 4, 0);
        }
        post.run(8);
        for (int i = 0; i < 4; i++) {
            Due.same("in tube " + i, post.tube(i, 6), 8);
            Due.same("the next one from " + i, post.send(i, 4, 0), 36 + i);
        }
        Due.state("the 41st, from a station with room", () -> post.send(0, 4, 0));
        Due.state("the 41st, from an empty station", () -> post.send(4, 0, 0));
        Due.same("nothing is delivered at 60", post.run(52), 0);
        Due.state("still the 41st", () -> post.send(0, 4, 0));
        Due.same("delivered at 61", post.run(1), 4);
        for (int i = 0; i < 4; i++) {
            Due.same("in place of a delivered one", post.send(4, i, 0), 40 + i);
        }
        Due.state("40 again", () -> post.send(4, 0, 0));
    }

    // "and at most 500 are sent in all" send: "Throws IllegalStateException if .. 500 were sent"
    private static void fiveHundredByHand() {
        TubePost post = Nets.chain(2, 9, 0, 1);
        post.addEntry(1, 1, 2, 0, 1);
        post.run(498);
        Due.same("sent by the clock", post.count(4), 498);
        Due.same("the 499th", post.send(0, 1, 0), 498);
        Due.same("the 500th", post.send(0, 1, 0), 499);
        Due.state("the 501st", () -> post.send(0, 1, 0));
        post.run(10);
        Due.same("all are delivered", post.count(6), 500);
        Due.same("none is under way", post.count(5), 0);
        Due.state("the 501st, with none under way", () -> post.send(0, 1, 0));
        Due.same("sent", post.count(4), 500);
    }

    // "nothing, if it cannot be sent": the 500th yes, the 501st not.
    private static void fiveHundredByTheClock() {
        TubePost post = Nets.stations(3, 9, 0);
        post.addTube(0, 1, 1, 1, 8);
        post.addTube(0, 2, 1, 1, 8);
        post.addEntry(1, 1, 2, 0, 1);
        post.addEntry(500, 1, 2, 0, 2);
        post.run(499);
        Due.same("sent at 499", post.count(4), 499);
        post.run(1);
        Due.same("sent at 500", post.count(4), 500);
        Due.same("the first entry's", post.carrier(499, 2), 1);
        Due.index("no 501st", () -> post.carrier(500, 0));
        post.run(10);
        Due.same("sent later", post.count(4), 500);
        Due.same("to station 2", post.station(2, 5), 0);
    }

    // run: "Throws IllegalArgumentException if ticks is not 1 to 500"
    private static void runTakes1To500() {
        TubePost post = Nets.chain(2, 9, 0, 1);
        post.send(0, 1, 0);
        Due.argumentOutside("run", 1, 500, post::run);
        Due.same("the tick behind refusals", post.count(0), 0);
        Due.same("nothing goes behind refusals", post.tube(0, 8), 0);
        Due.same("run(1)", post.run(1), 0);
        Due.same("the tick", post.count(0), 1);
        Due.same("run(500)", post.run(500), 1);
        Due.same("the tick", post.count(0), 501);
        Due.same("run(499)", post.run(499), 0);
        Due.same("the tick", post.count(0), 1000);
    }

    // run: "Returns how many carriers were delivered in them."
    private static void runTellsWhatItDelivered() {
        TubePost post = Nets.chain(2, 9, 0, 5);
        Nets.send(post, 4, 0, 1, 0);
        Due.same("up to the tick ahead of the first one", post.run(5), 0);
        Due.same("the tick of the first one, and the second one's", post.run(2), 2);
        Due.same("the third one's alone", post.run(1), 1);
        Due.same("the fourth one's and many behind", post.run(500), 1);
        Due.same("none is left", post.run(500), 0);
        Due.same("in all", post.count(6), 4);
    }

    // "An object is used for at most 512 calls after it has been made": the 512th answers as the first did.
    private static void fiveHundredAndTwelveCalls() {
        TubePost post = heldFor(505);
        Due.same("the 512th call, run", post.run(500), 1);
        TubePost other = heldFor(504);
        other.run(500);
        Due.same("the 512th call, count", other.count(8), 504 * 500 + 2);
        TubePost another = heldFor(504);
        another.run(500);
        Due.sameDouble("the 512th call, mean", another.mean(), 504 * 500 + 2);
    }

    /** With so many runs of 500 ticks it has had 6 calls more; a carrier has waited for its tube till now. */
    private static TubePost heldFor(int runs) {
        TubePost post = Nets.chain(2, 1, 0, 1);
        post.setTube(0, 1, false);
        post.send(0, 1, 0);
        for (int i = 0; i < runs; i++) {
            post.run(500);
        }
        post.setTube(0, 1, true);
        return post;
    }
}
