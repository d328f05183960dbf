/**
 * A carrier's way (Terms, ahead of "A tick goes like this"): handling, its way out, entering a tube, coming out of
 * it, and jams; each boundary from both sides. Above each test stands the sentence that it is for.
 */
public final class WayTest {
    public static void main(String[] args) {
        handledAsManyTicks();
        handledAnewAtEachStation();
        deliveredWithoutHandling();
        switchLeavesOneWayOnly();
        switchLeadsAnywhere();
        switchTurnedFreeAgain();
        leastTimeByOneTick();
        leastTimeIsRoundedUp();
        smallestNumberOfSeveral();
        handlingBetweenCounts();
        handlingAtTheEndsDoesNot();
        shutTubesDoNotCount();
        reckonedNow();
        reckonedFromTheLastWayToTheFirst();
        noWayThenItStays();
        fullOrJammedTubesAreChosen();
        openTubeIsEntered();
        boreIsFull();
        boreCountsJammedOnes();
        oneEntersInATick();
        twoTubesInATick();
        timeThroughIsRoundedUp();
        timeIsOfTheSpeedAtEntry();
        comesIfThereIsRoom();
        deliveryNeedsNoRoom();
        jamBeginsAtTheEndOfTheTube();
        jamHoldsThoseBehind();
        jamLetsTheOthersTravel();
        jamEndsWithRoom();
        jamsAreOfEachTube();
        shutTubeLetsOut();
        Due.close("WayTest");
    }

    /** The tube that the post's next carrier takes, -1 if it stays for 30 ticks. */
    private static int tubeTaken(TubePost post, int from, int aim) {
        int number = post.send(from, aim, 0);
        for (int i = 0; i < 30 && post.carrier(number, 0) == 1; i++) {
            post.run(1);
        }
        return post.carrier(number, 0) == 2 ? post.carrier(number, 1) : -1;
    }

    /** Stations 0, 1, 2 with these handlings; tubes 0 and 1 lead by station 1, tube 2 straight, or the other way round. */
    private static TubePost detour(int handling0, int handling1, int handling2, int straight, boolean straightFirst) {
        TubePost post = new TubePost();
        post.addStation(9, handling0);
        post.addStation(9, handling1);
        post.addStation(9, handling2);
        if (straightFirst) {
            post.addTube(0, 2, straight, 1, 8);
        }
        post.addTube(0, 1, 3, 1, 8);
        post.addTube(1, 2, 3, 1, 8);
        if (!straightFirst) {
            post.addTube(0, 2, straight, 1, 8);
        }
        return post;
    }

    // "A carrier at a station is handled first, as many ticks as the handling takes, then it waits for a way."
    private static void handledAsManyTicks() {
        for (int handling = 1; handling <= 20; handling++) {
            TubePost post = Nets.chain(2, 1, handling, 5);
            post.run(3);
            post.send(0, 1, 0);
            for (int i = 1; i < handling; i++) {
                post.run(1);
                Due.same("handled, tick " + i + " of " + handling, post.carrier(0, 0), 1);
            }
            post.run(1);
            Due.same("it goes behind " + handling, post.carrier(0, 0), 2);
            Due.same("entered at", post.carrier(0, 5), 3 + handling);
        }
    }

    // The same at each station that it comes to; with 0 it departs in the tick in which it comes.
    private static void handledAnewAtEachStation() {
        int[] handlings = {0, 1, 2, 19, 20};
        for (int handling : handlings) {
            TubePost post = new TubePost();
            post.addStation(1, 0);
            post.addStation(1, handling);
            post.addStation(1, 0);
            post.addTube(0, 1, 4, 1, 1);
            post.addTube(1, 2, 4, 1, 1);
            post.send(0, 2, 0);
            post.run(4);
            Due.same("in the first tube", post.carrier(0, 1), 0);
            if (handling > 0) {
                post.run(handling);
                Due.same("it comes at 5 and is handled", post.carrier(0, 0), 1);
                Due.same("it came at", post.carrier(0, 5), 5);
            }
            post.run(1);
            Due.same("in the second tube", post.carrier(0, 0), 2);
            Due.same("entered at, handling " + handling, post.carrier(0, 5), 5 + handling);
        }
    }

    // "If the station is its aim, it is delivered as soon as it has come there, without handling."
    private static void deliveredWithoutHandling() {
        TubePost post = new TubePost();
        post.addStation(1, 0);
        post.addStation(1, 20);
        post.addTube(0, 1, 4, 1, 1);
        post.send(0, 1, 0);
        Due.same("a tick ahead", post.run(4), 0);
        Due.same("in the tick", post.run(1), 1);
        Due.same("none is there", post.station(1, 4), 0);
        Due.same("delivered at", post.carrier(0, 5), 5);
    }

    // "if the switch stands at a way, only this one": it waits there, though another way is open.
    private static void switchLeavesOneWayOnly() {
        TubePost post = Nets.stations(2, 9, 0);
        post.addTube(0, 1, 9, 1, 1);
        post.addTube(0, 1, 1, 1, 8);
        post.turn(0, 0);
        post.send(0, 1, 0);
        post.send(0, 1, 0);
        post.run(5);
        Due.same("waits at a full tube", post.carrier(1, 0), 1);
        post.setTube(0, 1, false);
        post.run(20);
        Due.same("waits at a shut tube", post.carrier(1, 0), 1);
        Due.same("the other tube is not entered", post.tube(1, 8), 0);
        Due.same("its way", post.next(0, 1), 0);
        post.setTube(0, 1, true);
        post.run(1);
        Due.same("goes as the tube opens", post.carrier(1, 1), 0);
        Due.same("it is in the tube", post.carrier(1, 0), 2);
    }

    // "(With a switch it goes that way whether it leads to its aim or not.)"
    private static void switchLeadsAnywhere() {
        TubePost post = Nets.stations(3, 9, 0);
        post.addTube(0, 1, 2, 1, 8);
        post.addTube(0, 2, 2, 1, 8);
        post.turn(0, 1);
        Due.same("led to station 2", tubeTaken(post, 0, 1), 1);
        post.run(2);
        Due.same("it is at station 2", post.carrier(0, 1), 2);
        Due.same("and stays there", post.carrier(0, 0), 1);
        post.turn(0, 0);
        Due.same("led to its aim", tubeTaken(post, 0, 1), 0);
        Due.same("no way to the aim at all", post.time(2, 0), -1);
        post.addTube(2, 1, 2, 1, 8);
        post.turn(2, 0);
        post.send(2, 0, 0);
        post.run(2);
        Due.same("goes a way that never leads to its aim", post.carrier(2, 1), 2);
        Due.same("in the tube", post.carrier(2, 0), 2);
    }

    // "or is free": the switch that is turned back does not bind.
    private static void switchTurnedFreeAgain() {
        TubePost post = detour(0, 0, 0, 20, false);
        post.turn(0, 1);
        Due.same("bound to the straight tube", tubeTaken(post, 0, 2), 2);
        post.turn(0, -1);
        Due.same("free: the least time", tubeTaken(post, 0, 2), 0);
    }

    // "if it is free, the one on which it can come to its aim in the least time": one tick decides.
    private static void leastTimeByOneTick() {
        int[] straight = {10, 11, 12};
        int[] dueBehind = {2, 0, 0};
        int[] dueAhead = {0, 0, 1};
        for (int i = 0; i < straight.length; i++) {
            // By station 1 it takes 3 + 5 + 3.
            Due.same("straight " + straight[i] + " as the second way",
                    tubeTaken(detour(0, 5, 0, straight[i], false), 0, 2), dueBehind[i]);
            Due.same("straight " + straight[i] + " as the first way",
                    tubeTaken(detour(0, 5, 0, straight[i], true), 0, 2), dueAhead[i]);
        }
        TubePost post = Nets.stations(2, 9, 0);
        for (int length = 4; length >= 1; length--) {
            post.addTube(0, 1, length, 1, 8);
            Due.same("the shortest of " + (5 - length), post.next(0, 1), 4 - length);
        }
    }

    // "The time through a tube is length / speed, rounded up": so it is reckoned for the way, too.
    private static void leastTimeIsRoundedUp() {
        TubePost post = Nets.stations(2, 9, 0);
        post.addTube(0, 1, 13, 6, 8);
        post.addTube(0, 1, 12, 6, 8);
        Due.same("13 / 6 is longer than 12 / 6", post.next(0, 1), 1);
        post.setTube(0, 5, true);
        post.setTube(1, 4, true);
        Due.same("13 / 5 is as long as 12 / 4", post.next(0, 1), 0);
        Due.same("the time", post.time(0, 1), 3);
    }

    // "of several the one with the smallest number"
    private static void smallestNumberOfSeveral() {
        TubePost post = Nets.stations(2, 9, 0);
        for (int i = 0; i < 4; i++) {
            post.addTube(0, 1, 5, 1, 8);
        }
        for (int way = 0; way < 4; way++) {
            Due.same("the first of " + (4 - way) + " equal ones", tubeTaken(post, 0, 1), way);
            post.setTube(way, 1, false);
        }
        Due.same("none is left", tubeTaken(post, 0, 1), -1);
        // Different tubes and stations between may be equal, too.
        Due.same("equal by station 1 and straight", detour(0, 1, 0, 7, false).next(0, 2), 0);
        Due.same("equal straight and by station 1", detour(0, 1, 0, 7, true).next(0, 2), 0);
    }

    // "the time through each tube that is open, and the handling of each station between"
    private static void handlingBetweenCounts() {
        for (int handling = 0; handling <= 20; handling++) {
            TubePost post = detour(0, handling, 0, 60, false);
            Due.same("time with the handling " + handling, post.time(0, 2), 6 + handling);
        }
        TubePost two = new TubePost();
        two.addStation(1, 20);
        two.addStation(1, 7);
        two.addStation(1, 11);
        two.addStation(1, 20);
        two.addTube(0, 1, 1, 1, 1);
        two.addTube(1, 2, 1, 1, 1);
        two.addTube(2, 3, 1, 1, 1);
        Due.same("both stations between", two.time(0, 3), 3 + 7 + 11);
        two.addTube(0, 3, 22, 1, 1);
        Due.same("a tick longer, straight", two.next(0, 3), 0);
        two.addTube(0, 3, 20, 1, 1);
        Due.same("a tick shorter, straight", two.next(0, 3), 2);
    }

    // "(not that where it is, nor the aim)"
    private static void handlingAtTheEndsDoesNot() {
        Due.same("the time straight", detour(20, 0, 20, 6, true).time(0, 2), 6);
        Due.same("the time by station 1", detour(20, 0, 20, 7, true).time(0, 2), 6);
        // Were the aim's handling or that of its own station counted for one way only, these would turn round.
        Due.same("straight is a tick shorter", detour(20, 0, 20, 5, false).next(0, 2), 1);
        Due.same("straight is a tick longer", detour(20, 0, 20, 7, true).next(0, 2), 1);
        Due.same("both are equal", detour(20, 0, 20, 6, true).next(0, 2), 0);
    }

    // "each tube that is open"
    private static void shutTubesDoNotCount() {
        TubePost post = detour(0, 5, 0, 30, false);
        post.setTube(1, 1, false);
        Due.same("the second tube by station 1 is shut", tubeTaken(post, 0, 2), 2);
        Due.same("time straight", post.time(0, 2), 30);
        post.setTube(2, 1, false);
        Due.same("every way is shut", tubeTaken(post, 0, 2), -1);
        Due.same("no time", post.time(0, 2), -1);
        post.setTube(1, 1, true);
        Due.same("by station 1 again", tubeTaken(post, 0, 2), 0);
        Due.same("time by station 1", post.time(0, 2), 11);
    }

    // "reckoned now": not when it came, and not as it was when the way was last asked for.
    private static void reckonedNow() {
        TubePost post = detour(3, 0, 0, 6, false);
        Due.same("equal: by station 1", post.next(0, 2), 0);
        post.send(0, 2, 0);
        post.run(2);
        post.setTube(2, 6, true);
        Due.same("faster straight", post.next(0, 2), 1);
        post.run(1);
        Due.same("it goes straight", post.carrier(0, 1), 2);
        Due.same("in the tube", post.carrier(0, 0), 2);
        post.setTube(2, 1, false);
        Due.same("shut: by station 1", post.next(0, 2), 0);
        post.addEntry(4, 0, 1, 2, 1);
        post.addEntry(5, 0, 1, 0, 0);
        post.addEntry(6, 0, 1, 2, 0);
        post.run(1);
        Due.same("opened by the clock, equal", post.next(0, 2), 0);
        post.run(1);
        Due.same("the other one shut by the clock", post.next(0, 2), 1);
        post.run(1);
        Due.same("both shut by the clock", post.next(0, 2), -1);
        post.addTube(0, 2, 60, 1, 1);
        Due.same("a tube that was laid now", post.next(0, 2), 2);
        // The rows of all aims are reckoned anew, also that of station 0.
        post.addTube(2, 0, 9, 1, 1);
        Due.same("to station 0", post.time(2, 0), 9);
        post.setTube(4, 3, true);
        Due.same("to station 0, faster", post.time(2, 0), 3);
    }

    // A way may lead over 13 tubes, in whichever order they were laid.
    private static void reckonedFromTheLastWayToTheFirst() {
        TubePost up = Nets.chain(14, 1, 1, 2);
        Due.same("up, the way", up.next(0, 13), 0);
        Due.same("up, the time", up.time(0, 13), 13 * 2 + 12);
        TubePost down = Nets.stations(14, 1, 1);
        for (int i = 0; i < 13; i++) {
            down.addTube(i + 1, i, 2, 1, 1);
        }
        Due.same("down, the way", down.next(13, 0), 0);
        Due.same("down, the time", down.time(13, 0), 13 * 2 + 12);
        down.addTube(13, 0, 39, 1, 1);
        Due.same("down, straight a tick longer", down.next(13, 0), 0);
        down.addTube(13, 0, 37, 1, 1);
        Due.same("down, straight a tick shorter", down.next(13, 0), 2);
    }

    // "if there is none, it stays"
    private static void noWayThenItStays() {
        TubePost post = Nets.stations(3, 9, 0);
        Due.same("no way out at all", tubeTaken(post, 0, 2), -1);
        post.addTube(0, 1, 3, 1, 8);
        post.run(30);
        Due.same("a way out, but none to its aim", post.carrier(0, 0), 1);
        Due.same("it came at", post.carrier(0, 5), 0);
        post.addTube(1, 2, 3, 1, 8);
        post.run(1);
        Due.same("a way to its aim", post.carrier(0, 0), 2);
        Due.same("entered at", post.carrier(0, 5), 61);
    }

    // The least time is of the tubes and handlings alone: how full a tube is, or whether it is jammed, does not count.
    private static void fullOrJammedTubesAreChosen() {
        TubePost post = new TubePost();
        post.addStation(9, 0);
        post.addStation(1, 0);
        post.addStation(9, 0);
        post.addTube(0, 1, 2, 1, 2);
        post.addTube(1, 2, 2, 1, 2);
        post.addTube(0, 2, 5, 1, 8);
        post.turn(1, 0);
        post.setTube(1, 1, false);
        post.turn(0, 0);
        Nets.send(post, 4, 0, 2, 0);
        post.run(10);
        Due.same("jammed", post.tube(0, 7), 1);
        Due.same("full", post.tube(0, 6), 2);
        post.turn(0, -1);
        post.addTube(1, 2, 1, 1, 1);
        Due.same("chosen all the same", post.next(0, 2), 0);
        post.run(1);
        Due.same("and waited for", post.carrier(3, 0), 1);
        Due.same("the other tube stays empty", post.tube(2, 8), 0);
    }

    // "It can enter the tube, if this is open"
    private static void openTubeIsEntered() {
        TubePost post = Nets.chain(2, 9, 0, 5);
        post.turn(0, 0);
        post.setTube(0, 1, false);
        post.send(0, 1, 0);
        post.run(3);
        Due.same("shut", post.carrier(0, 0), 1);
        Due.same("entered", post.tube(0, 8), 0);
        post.setTube(0, 1, true);
        post.run(1);
        Due.same("open", post.carrier(0, 0), 2);
        Due.same("entered then", post.tube(0, 8), 1);
    }

    // "and fewer carriers are in it than its bore"
    private static void boreIsFull() {
        for (int bore = 1; bore <= 8; bore++) {
            TubePost post = Nets.stations(2, 9, 0);
            post.addTube(0, 1, 20, 1, bore);
            Nets.send(post, 9, 0, 1, 0);
            for (int tick = 1; tick <= 20; tick++) {
                post.run(1);
                Due.same("in the bore " + bore + " at " + tick, post.tube(0, 6), Math.min(tick, bore));
            }
            // At 21 the first one leaves ahead of the departures: its place is taken in the same tick.
            Due.same("one leaves", post.run(1), 1);
            Due.same("one enters", post.carrier(bore, 5), 21);
            Due.same("full again", post.tube(0, 6), bore);
        }
    }

    // Those that stay at the end of a tube are in it.
    private static void boreCountsJammedOnes() {
        TubePost post = new TubePost();
        post.addStation(9, 0);
        post.addStation(1, 0);
        post.addStation(1, 0);
        post.addTube(0, 1, 1, 1, 2);
        post.turn(0, 0);
        Nets.send(post, 5, 0, 2, 0);
        post.run(20);
        Due.same("one has come", post.station(1, 4), 1);
        Due.same("two are in the tube", post.tube(0, 6), 2);
        Due.same("two wait ahead of it", post.station(0, 4), 2);
        Due.same("entered", post.tube(0, 8), 3);
    }

    // "and no other one has entered it in this tick"
    private static void oneEntersInATick() {
        TubePost post = Nets.chain(2, 9, 0, 9);
        Nets.send(post, 3, 0, 1, 2);
        for (int tick = 1; tick <= 3; tick++) {
            post.run(1);
            Due.same("entered at " + tick, post.tube(0, 8), tick);
            Due.same("still there at " + tick, post.station(0, 4), 3 - tick);
        }
    }

    private static void twoTubesInATick() {
        TubePost post = Nets.stations(5, 9, 0);
        for (int aim = 1; aim < 5; aim++) {
            post.addTube(0, aim, 9, 1, 8);
            post.send(0, aim, 0);
            post.send(0, aim, 0);
        }
        post.run(1);
        for (int tube = 0; tube < 4; tube++) {
            Due.same("one has entered tube " + tube, post.tube(tube, 8), 1);
        }
        Due.same("the other four wait", post.station(0, 4), 4);
        post.run(1);
        Due.same("and go a tick later", post.station(0, 4), 0);
    }

    // "The time through a tube is length / speed, rounded up"
    private static void timeThroughIsRoundedUp() {
        for (int length = 1; length <= 60; length++) {
            for (int speed = 1; speed <= 6; speed++) {
                int due = 1;
                while (due * speed < length) {
                    due++;
                }
                TubePost post = Nets.stations(2, 9, 0);
                post.addTube(0, 1, length, speed, 1);
                String tube = length + " / " + speed;
                Due.same("time " + tube, post.time(0, 1), due);
                post.send(0, 1, 0);
                Due.same("a tick too early " + tube, post.run(due), 0);
                Due.same("in time " + tube, post.run(1), 1);
            }
        }
    }

    // "at the speed when the carrier enters": what is set ahead of that tick holds, what is set behind it does not.
    private static void timeIsOfTheSpeedAtEntry() {
        for (int when = 0; when <= 2; when++) {
            TubePost faster = Nets.chain(2, 9, 0, 12);
            TubePost slower = Nets.chain(2, 9, 0, 12);
            slower.setTube(0, 6, true);
            faster.send(0, 1, 0);
            slower.send(0, 1, 0);
            if (when > 0) {
                faster.run(when);
                slower.run(when);
            }
            faster.setTube(0, 6, true);
            slower.setTube(0, 1, true);
            faster.run(60);
            slower.run(60);
            Due.same("set to 6 at " + when, faster.carrier(0, 5), when == 0 ? 3 : 13);
            Due.same("set to 1 at " + when, slower.carrier(0, 5), when == 0 ? 13 : 3);
        }
    }

    // "At the end of a tube it comes to the station, if there is room: fewer carriers are there .. than its room."
    private static void comesIfThereIsRoom() {
        for (int room = 1; room <= 9; room++) {
            TubePost post = Nets.deadEnd(room, 2);
            for (int i = 0; i <= room; i++) {
                Due.same("jams ahead of carrier " + i, post.count(7), 0);
                post.send(0, 2, 0);
                post.run(3);
                Due.same("there behind carrier " + i, post.station(1, 4), Math.min(i + 1, room));
            }
            Due.same("the one too many, room " + room, post.carrier(room, 0), 2);
            Due.same("the tube is jammed", post.tube(0, 7), 1);
            Due.same("the last one that came", post.carrier(room - 1, 0), 1);
        }
    }

    // "(What is delivered needs no room.)"
    private static void deliveryNeedsNoRoom() {
        TubePost post = Nets.deadEnd(1, 2);
        post.send(1, 2, 0);
        post.send(0, 1, 0);
        post.send(0, 2, 0);
        Due.same("delivered into a full station", post.run(3), 1);
        Due.same("no jam yet", post.count(7), 0);
        post.run(1);
        Due.same("the one behind needs room", post.count(7), 1);
        Due.same("carriers there", post.station(1, 4), 1);
        Due.same("delivered there", post.station(1, 5), 1);
    }

    // "it stays at the end of the tube, and the tube is jammed as long as it stays there"
    private static void jamBeginsAtTheEndOfTheTube() {
        TubePost post = Nets.deadEnd(1, 7);
        post.send(1, 2, 0);
        post.send(0, 2, 0);
        for (int tick = 1; tick <= 7; tick++) {
            post.run(1);
            Due.same("jams at " + tick, post.count(7), 0);
            Due.same("the tube at " + tick, post.tube(0, 7), 0);
        }
        for (int tick = 8; tick <= 30; tick++) {
            post.run(1);
            Due.same("jams at " + tick, post.count(7), 1);
            Due.same("the tube at " + tick, post.tube(0, 7), 1);
        }
        Due.tells("it has stayed", what -> post.carrier(1, what), 2, 0, 2, 0, 0, 1, 1);
    }

    // "no other one can leave it, those behind it stay, too, when they have come to the end"
    private static void jamHoldsThoseBehind() {
        TubePost post = Nets.deadEnd(1, 3);
        post.send(1, 2, 0);
        post.send(0, 2, 3);
        Nets.send(post, 3, 0, 1, 0);
        Due.same("not even those for the station are let out", post.run(50), 0);
        Due.same("all are in the tube", post.tube(0, 6), 4);
        Due.same("one jam", post.count(7), 1);
        post.addTube(1, 2, 1, 1, 1);
        Due.same("the first one there goes", post.run(1), 0);
        Due.same("still jammed", post.count(7), 1);
        // It comes in the second tick, and with it those behind: they need no room, and have been in long enough.
        Due.same("the others come, and the first one there is delivered", post.run(1), 4);
        Due.same("nothing is left in the tube", post.tube(0, 6), 0);
        Due.same("no jam", post.count(7), 0);
    }

    // Those behind go on through a jammed tube till they have come to its end.
    private static void jamLetsTheOthersTravel() {
        TubePost post = Nets.deadEnd(1, 10);
        post.send(1, 2, 0);
        post.send(0, 2, 0);
        post.run(12);
        post.send(0, 1, 0);
        post.run(1);
        Due.same("it enters a jammed tube", post.carrier(2, 5), 13);
        post.addTube(1, 2, 1, 1, 1);
        post.run(2);
        Due.same("the jam is over at 15", post.count(7), 0);
        Due.same("only the one that was jammed is delivered up to 22", post.run(7), 1);
        Due.same("it comes at 23, 10 ticks behind its entry", post.run(1), 1);
        Due.same("no jam then", post.count(7), 0);
    }

    // The jam ends in the tick in which there is room: behind the departure that made it, a tick later.
    private static void jamEndsWithRoom() {
        TubePost post = Nets.deadEnd(2, 2);
        Nets.send(post, 2, 1, 2, 0);
        Nets.send(post, 3, 0, 2, 0);
        post.run(10);
        Due.same("jammed with three", post.tube(0, 6), 3);
        post.addTube(1, 2, 9, 1, 8);
        post.run(1);
        Due.same("one has gone at 11", post.station(1, 4), 1);
        Due.same("still jammed at 11", post.tube(0, 7), 1);
        post.run(1);
        // At 12 one comes and fills the last place, so the next one jams the tube anew; then another one goes.
        Due.same("the first one came at 12", post.carrier(2, 5), 12);
        Due.same("in the tube at 12", post.tube(0, 6), 2);
        Due.same("jammed by the next one", post.tube(0, 7), 1);
        post.run(1);
        Due.same("the second one came at 13", post.carrier(3, 5), 13);
        Due.same("jammed by the last one", post.tube(0, 7), 1);
        post.run(1);
        Due.same("the last one came at 14", post.carrier(4, 5), 14);
        Due.same("no jam", post.count(7), 0);
    }

    // "7 tubes that are jammed": each tube for itself.
    private static void jamsAreOfEachTube() {
        TubePost post = Nets.stations(6, 1, 0);
        for (int i = 0; i < 4; i++) {
            post.addTube(i, 4, 2 + i, 1, 1);
            post.turn(i, 0);
            post.send(i, i == 3 ? 4 : 5, 0);
        }
        int[] due = {0, 0, 0, 1, 2, 2, 2};
        for (int tick = 1; tick <= due.length; tick++) {
            post.run(1);
            Due.same("jams at " + tick, post.count(7), due[tick - 1]);
        }
        int[] jammed = {0, 1, 1, 0};
        for (int tube = 0; tube < 4; tube++) {
            Due.same("jam of tube " + tube, post.tube(tube, 7), jammed[tube]);
        }
    }

    // Only who would enter needs an open tube.
    private static void shutTubeLetsOut() {
        TubePost post = Nets.chain(2, 9, 0, 5);
        post.send(0, 1, 0);
        post.run(1);
        post.setTube(0, 1, false);
        Due.same("inside a shut tube", post.run(4), 0);
        Due.same("let out of it", post.run(1), 1);
    }
}
