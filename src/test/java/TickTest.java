/**
 * How a tick goes (Terms, from "A tick goes like this" on): the clock, arrivals, departures, their order, and the
 * tick in which each thing happens, from both sides. Above each test stands the sentence that it is for.
 */
public final class TickTest {
    public static void main(String[] args) {
        firstTickOfAnEntry();
        firstTick100000();
        period0IsOnce();
        period1IsEachTick();
        periodsHaveTheirLength();
        clockSetsSwitches();
        clockSetsAnewWhatWasSetByHand();
        clockOpensAndShuts();
        clockSends();
        clockCannotSendToTheSameStation();
        clockCannotSendWithoutRoom();
        clockTriesAgainInItsNextTick();
        entriesAreDoneInTheirOrder();
        clockComesAheadOfArrivals();
        clockComesAheadOfDepartures();
        arrivalsComeAheadOfDepartures();
        arrivalsGoTubeByTube();
        severalComeOneAfterTheOther();
        notSoLongKeepsAllBehind();
        asLongOrLonger();
        departuresByRank();
        departuresByComing();
        rankIsAheadOfComing();
        handledOnesAlone();
        laterWayIsNotHeldByAnEarlierOne();
        comingAtATickWithHandling();
        sentByHandAtTheEndOfTheTick();
        sentByHandBehindTheArrivals();
        sentByTheClockAheadOfTheArrivals();
        severalTicksAreOneAfterTheOther();
        Due.close("TickTest");
    }

    private static void carrierIs(String when, TubePost post, int number, int... due) {
        Due.tells(when + ", carrier " + number, what -> post.carrier(number, what), due);
    }

    // "each has a first tick .. and does one thing at the first tick": not a tick ahead of it.
    private static void firstTickOfAnEntry() {
        int[] firsts = {1, 2, 499, 500};
        for (int first : firsts) {
            TubePost post = Nets.stations(2, 9, 0);
            post.addEntry(first, 0, 2, 0, 1);
            if (first > 1) {
                post.run(first - 1);
            }
            Due.same("sent ahead of the tick " + first, post.count(4), 0);
            post.run(1);
            Due.same("sent in the tick " + first, post.count(4), 1);
            Due.same("sent at", post.carrier(0, 4), first);
        }
    }

    // The last first tick, and what is repeated behind it.
    private static void firstTick100000() {
        TubePost post = Nets.stations(2, 9, 0);
        post.addEntry(100000, 0, 2, 0, 1);
        post.addEntry(100000, 500, 2, 1, 0);
        for (int i = 0; i < 199; i++) {
            post.run(500);
        }
        post.run(499);
        Due.same("sent at 99999", post.count(4), 0);
        post.run(1);
        Due.same("sent at 100000", post.count(4), 2);
        post.run(499);
        Due.same("sent at 100499", post.count(4), 2);
        post.run(1);
        Due.same("sent at 100500", post.count(4), 3);
    }

    // "(once, if this is 0)"
    private static void period0IsOnce() {
        TubePost post = Nets.stations(2, 9, 0);
        post.addEntry(3, 0, 2, 0, 1);
        post.run(2);
        Due.same("sent at 2", post.count(4), 0);
        post.run(1);
        Due.same("sent at 3", post.count(4), 1);
        post.run(500);
        Due.same("sent at 503", post.count(4), 1);
    }

    // "and then again and again behind each period": the shortest one.
    private static void period1IsEachTick() {
        TubePost post = Nets.stations(2, 9, 0);
        post.addEntry(3, 1, 2, 0, 1);
        int[] due = {0, 0, 1, 2, 3, 4, 5, 6, 7, 8, 9, 9};
        for (int tick = 1; tick <= due.length; tick++) {
            post.run(1);
            Due.same("sent at " + tick, post.count(4), due[tick - 1]);
        }
    }

    // From the first tick on, not from the tick 0, and up to the longest one.
    private static void periodsHaveTheirLength() {
        int[] periods = {2, 7, 499, 500};
        for (int period : periods) {
            TubePost post = Nets.stations(2, 9, 0);
            post.addEntry(5, period, 2, 0, 1);
            post.run(5);
            for (int times = 1; times <= 4; times++) {
                Due.same("period " + period + ", time " + times, post.carrier(times - 1, 4), 5 + (times - 1) * period);
                if (period > 1) {
                    post.run(period - 1);
                }
                Due.same("a tick ahead of the next time", post.count(4), times);
                post.run(1);
                Due.same("the next time", post.count(4), times + 1);
            }
        }
    }

    // "0 sets the switch of a station to a way (-1: free)"
    private static void clockSetsSwitches() {
        TubePost post = Nets.stations(3, 9, 0);
        for (int i = 0; i < 4; i++) {
            post.addTube(1, 2, 1, 1, 1);
        }
        post.addTube(2, 1, 1, 1, 1);
        for (int tick = 1; tick <= 4; tick++) {
            post.addEntry(tick, 0, 0, 1, tick - 1);
        }
        post.addEntry(5, 0, 0, 1, -1);
        int[] due = {0, 1, 2, 3, -1, -1};
        for (int tick = 1; tick <= due.length; tick++) {
            post.run(1);
            Due.same("the switch at " + tick, post.station(1, 3), due[tick - 1]);
            Due.same("the other switch at " + tick, post.station(2, 3), -1);
        }
    }

    // What is set by hand between holds till the entry's next tick.
    private static void clockSetsAnewWhatWasSetByHand() {
        TubePost post = Nets.chain(2, 9, 0, 1);
        post.addTube(0, 1, 1, 1, 1);
        post.addEntry(2, 3, 0, 0, 1);
        post.run(2);
        Due.same("by the clock, told by turn", post.turn(0, 0), 1);
        post.run(2);
        Due.same("by hand", post.station(0, 3), 0);
        post.run(1);
        Due.same("by the clock again", post.station(0, 3), 1);
    }

    // "1 opens or shuts a tube (1 open, 0 shut)"
    private static void clockOpensAndShuts() {
        TubePost post = Nets.chain(3, 9, 0, 12);
        post.setTube(0, 4, true);
        post.addEntry(2, 0, 1, 0, 0);
        post.addEntry(3, 0, 1, 0, 0);
        post.addEntry(5, 0, 1, 0, 1);
        post.addEntry(6, 0, 1, 0, 1);
        int[] due = {1, 0, 0, 0, 1, 1};
        for (int tick = 1; tick <= due.length; tick++) {
            post.run(1);
            Due.same("open at " + tick, post.tube(0, 5), due[tick - 1]);
            Due.same("time at " + tick, post.time(0, 1), due[tick - 1] == 1 ? 3 : -1);
            Due.same("its speed at " + tick, post.tube(0, 3), 4);
            Due.same("the other tube at " + tick, post.tube(1, 5), 1);
        }
    }

    // "2 sends a carrier from a station to an aim, with the rank 1"
    private static void clockSends() {
        TubePost post = Nets.stations(3, 9, 20);
        post.send(2, 0, 0);
        post.send(2, 0, 1);
        post.send(2, 0, 2);
        post.addEntry(7, 0, 2, 2, 1);
        post.run(7);
        carrierIs("sent by the clock", post, 3, 1, 2, 1, 1, 7, 7, 0);
        int[] due = {2, 1, 3, 0};
        for (int i = 0; i < due.length; i++) {
            Due.same("by its rank, there " + i, post.there(2, i), due[i]);
        }
    }

    // "(nothing, if it cannot be sent)": both are the same.
    private static void clockCannotSendToTheSameStation() {
        TubePost post = Nets.stations(2, 9, 0);
        post.addEntry(1, 1, 2, 1, 1);
        post.addEntry(2, 0, 2, 1, 0);
        post.run(1);
        Due.same("nothing is sent", post.count(4), 0);
        post.run(4);
        Due.same("to another station it is", post.count(4), 1);
        Due.same("its number", post.there(1, 0), 0);
    }

    // The last place yes, one more not (40 under way and 500 sent stand in BoundsTest).
    private static void clockCannotSendWithoutRoom() {
        for (int room = 1; room <= 9; room++) {
            TubePost post = Nets.stations(2, room, 0);
            Nets.send(post, room - 1, 0, 1, 0);
            post.addEntry(1, 0, 2, 0, 1);
            post.addEntry(2, 0, 2, 0, 1);
            post.run(1);
            Due.same("the last place of " + room, post.station(0, 4), room);
            post.run(1);
            Due.same("no place left", post.station(0, 4), room);
            Due.same("sent", post.count(4), room);
        }
    }

    // What could not be sent is not made up for; the next time it is tried anew.
    private static void clockTriesAgainInItsNextTick() {
        TubePost post = Nets.chain(2, 1, 0, 9);
        post.setTube(0, 1, false);
        post.send(0, 1, 0);
        post.addEntry(2, 4, 2, 0, 1);
        post.run(3);
        Due.same("no room at 2", post.count(4), 1);
        post.setTube(0, 1, true);
        post.run(2);
        Due.same("not made up for at 5", post.count(4), 1);
        post.run(1);
        Due.same("sent at 6", post.count(4), 2);
        Due.same("its mark", post.carrier(1, 4), 6);
    }

    // "They are done in their order.": that of their numbers, whichever first tick they have.
    private static void entriesAreDoneInTheirOrder() {
        for (int shutFirst = 0; shutFirst <= 1; shutFirst++) {
            TubePost post = Nets.chain(2, 1, 20, 1);
            if (shutFirst == 1) {
                post.addEntry(4, 0, 1, 0, 0);
                post.addEntry(2, 2, 1, 0, 1);
            } else {
                post.addEntry(2, 2, 1, 0, 1);
                post.addEntry(4, 0, 1, 0, 0);
            }
            post.run(4);
            Due.same("what the later entry did at 4", post.tube(0, 5), shutFirst);
            post.run(2);
            Due.same("open at 6", post.tube(0, 5), 1);
        }
        for (int earlier = 1; earlier <= 2; earlier++) {
            TubePost post = Nets.stations(3, 1, 20);
            post.addEntry(4, 0, 2, 0, earlier);
            post.addEntry(2, 0, 2, 1, 0);
            post.addEntry(4, 0, 2, 0, 3 - earlier);
            post.run(4);
            Due.same("sent at 2 and 4", post.count(4), 2);
            Due.same("the one place is for the earlier entry", post.carrier(1, 2), earlier);
        }
    }

    // "1. The clock." ahead of "2. Arrivals.": it takes the last place, and the one that comes in that tick jams.
    private static void clockComesAheadOfArrivals() {
        for (int when = 3; when <= 5; when++) {
            TubePost post = Nets.deadEnd(1, 3);
            post.addEntry(when, 0, 2, 1, 2);
            post.send(0, 2, 0);
            post.run(4);
            Due.same("the clock sends at " + when + ": jams at 4", post.count(7), when <= 4 ? 1 : 0);
            Due.same("who is there at 4", post.there(1, 0), when <= 4 ? 1 : 0);
            post.run(1);
            Due.same("sent in all", post.count(4), when <= 4 ? 2 : 1);
        }
    }

    // "1. The clock." ahead of "3. Departures.": a tube that it shuts is not entered in that tick, one that it opens is.
    private static void clockComesAheadOfDepartures() {
        for (int when = 4; when <= 6; when++) {
            TubePost shutting = Nets.chain(2, 9, 5, 3);
            shutting.addEntry(when, 0, 1, 0, 0);
            shutting.send(0, 1, 0);
            shutting.run(5);
            Due.same("shut at " + when + ", entered at 5", shutting.tube(0, 8), when <= 5 ? 0 : 1);
            TubePost opening = Nets.chain(2, 9, 5, 3);
            opening.setTube(0, 1, false);
            opening.addEntry(when, 0, 1, 0, 1);
            opening.send(0, 1, 0);
            opening.run(5);
            Due.same("opened at " + when + ", entered at 5", opening.tube(0, 8), when <= 5 ? 1 : 0);
            TubePost turning = Nets.chain(2, 9, 5, 3);
            turning.addTube(0, 1, 3, 1, 1);
            turning.addEntry(when, 0, 0, 0, 1);
            turning.send(0, 1, 0);
            turning.run(5);
            Due.same("turned at " + when + ", the tube entered at 5", turning.carrier(0, 1), when <= 5 ? 1 : 0);
        }
    }

    // "2. Arrivals." ahead of "3. Departures.": a place in a tube is free at once, a place at a station a tick later.
    private static void arrivalsComeAheadOfDepartures() {
        TubePost tube = Nets.stations(2, 9, 0);
        tube.addTube(0, 1, 4, 1, 1);
        Nets.send(tube, 2, 0, 1, 0);
        Due.same("nothing leaves at 4", tube.run(4), 0);
        Due.same("entered at 4", tube.tube(0, 8), 1);
        Due.same("one leaves at 5", tube.run(1), 1);
        Due.same("the next one enters at 5", tube.carrier(1, 5), 5);
        TubePost station = Nets.deadEnd(1, 3);
        station.send(1, 2, 0);
        station.send(0, 2, 0);
        station.run(3);
        station.addTube(1, 2, 9, 1, 8);
        station.run(1);
        Due.same("the place is left at 4", station.carrier(0, 5), 4);
        Due.same("too late for the one that comes at 4", station.carrier(1, 0), 2);
        Due.same("a jam of one tick", station.count(7), 1);
        station.run(1);
        Due.same("it comes at 5", station.tube(0, 6), 0);
        Due.same("no jam at 5", station.count(7), 0);
    }

    // "Tube by tube in ascending order"
    private static void arrivalsGoTubeByTube() {
        for (int longer = 0; longer <= 1; longer++) {
            TubePost post = Nets.stations(4, 1, 0);
            // Whoever entered earlier: both are at the end of their tubes in the tick 6.
            post.addTube(1, 2, longer == 0 ? 3 : 5, 1, 1);
            post.addTube(0, 2, longer == 0 ? 5 : 3, 1, 1);
            post.turn(0, 0);
            post.turn(1, 0);
            post.send(longer, 3, 0);
            post.run(2);
            post.send(1 - longer, 3, 3);
            post.run(4);
            Due.same("the lower tube is empty", post.tube(0, 6), 0);
            Due.same("the higher tube is jammed", post.tube(1, 7), 1);
            Due.same("carriers there", post.station(2, 4), 1);
        }
    }

    // "the first carriers in it, one after the other": as many in a tick as find room.
    private static void severalComeOneAfterTheOther() {
        for (int places = 1; places <= 4; places++) {
            TubePost post = Nets.stations(6, 4, 0);
            post.addTube(0, 1, 1, 1, 8);
            post.turn(0, 0);
            for (int aim = 2; aim <= 5; aim++) {
                post.setTube(post.addTube(1, aim, 9, 1, 1), 1, false);
                post.send(1, aim, 0);
                post.send(0, 2, 0);
            }
            post.run(4);
            post.send(0, 2, 0);
            post.run(4);
            Due.same("in the jammed tube", post.tube(0, 6), 5);
            for (int tube = 1; tube <= places; tube++) {
                post.setTube(tube, 1, true);
            }
            post.run(1);
            Due.same("so many have left", post.station(1, 4), 4 - places);
            Due.same("nobody has come yet", post.tube(0, 6), 5);
            post.run(1);
            Due.same("so many come in one tick", post.tube(0, 6), 5 - places);
            Due.same("the next one finds no room", post.tube(0, 7), 1);
            Due.same("the first one came, in the order of entry", post.carrier(1, 5), 10);
            Due.same("the last one is in the tube", post.carrier(8, 0), 2);
        }
        TubePost post = Nets.deadEnd(1, 1);
        post.send(1, 2, 0);
        post.send(0, 2, 0);
        Nets.send(post, 3, 0, 1, 0);
        post.run(9);
        post.addTube(1, 2, 9, 1, 8);
        post.run(1);
        Due.same("one takes the place, three are delivered in one tick", post.run(1), 3);
    }

    // "the first one that has not been in it so long .. keeps all behind it"
    private static void notSoLongKeepsAllBehind() {
        TubePost post = Nets.chain(2, 9, 0, 10);
        Nets.send(post, 3, 0, 1, 0);
        post.run(1);
        post.setTube(0, 5, true);
        Due.same("the second one is behind the first one up to 10", post.run(9), 0);
        Due.same("all are in the tube", post.tube(0, 6), 3);
        Due.same("that is no jam", post.tube(0, 7), 0);
        Due.same("all come at 11", post.run(1), 3);
        TubePost slow = Nets.chain(2, 9, 0, 10);
        slow.setTube(0, 5, true);
        Nets.send(slow, 2, 0, 1, 0);
        slow.run(1);
        slow.setTube(0, 1, true);
        Due.same("a fast one ahead comes at 3", slow.run(2), 1);
        Due.same("the slow one has not been in it so long at 11", slow.run(8), 0);
        Due.same("it comes at 12", slow.run(1), 1);
    }

    // "that have been in it for the time through it (or longer)"
    private static void asLongOrLonger() {
        TubePost post = Nets.deadEnd(1, 6);
        post.send(1, 2, 0);
        post.send(0, 2, 0);
        post.run(40);
        post.addTube(1, 2, 1, 1, 1);
        post.run(2);
        Due.same("33 ticks longer than needed: it comes all the same", post.tube(0, 6), 0);
        TubePost exact = Nets.chain(2, 9, 0, 6);
        exact.send(0, 1, 0);
        Due.same("5 ticks in it", exact.run(6), 0);
        Due.same("6 ticks in it", exact.run(1), 1);
    }

    // "in descending order of rank"
    private static void departuresByRank() {
        TubePost post = Nets.chain(2, 9, 3, 9);
        int[] ranks = {1, 0, 3, 2};
        for (int rank : ranks) {
            post.send(0, 1, rank);
        }
        int[] due = {2, 3, 0, 1};
        for (int i = 0; i < due.length; i++) {
            Due.same("there " + i, post.there(0, i), due[i]);
        }
        post.run(2);
        for (int i = 0; i < due.length; i++) {
            post.run(1);
            Due.same("entered at", post.carrier(due[i], 5), 3 + i);
            Due.same("it is in the tube", post.carrier(due[i], 0), 2);
        }
    }

    // "of the same rank in the order in which they came to the station"
    private static void departuresByComing() {
        for (int rank = 0; rank <= 3; rank++) {
            TubePost post = Nets.stations(4, 9, 0);
            post.addTube(1, 2, 5, 1, 1);
            post.addTube(0, 2, 5, 1, 1);
            post.addTube(2, 3, 5, 1, 8);
            post.turn(0, 0);
            post.turn(1, 0);
            post.setTube(2, 1, false);
            post.send(0, 3, rank); // by tube 1
            post.send(1, 3, rank); // by tube 0: it comes in the same tick, but ahead
            post.run(6);
            post.send(2, 3, rank); // at the end of that tick: behind both
            int[] due = {1, 0, 2};
            for (int i = 0; i < due.length; i++) {
                Due.same("there " + i + ", rank " + rank, post.there(2, i), due[i]);
            }
            post.setTube(2, 1, true);
            for (int i = 0; i < due.length; i++) {
                post.run(1);
                Due.same("entered at", post.carrier(due[i], 5), 7 + i);
            }
        }
    }

    // Rank is looked at first: one that comes later with a higher rank goes ahead, with the same one it does not.
    private static void rankIsAheadOfComing() {
        for (int rank = 0; rank <= 3; rank++) {
            TubePost post = Nets.chain(2, 9, 0, 9);
            post.setTube(0, 1, false);
            post.send(0, 1, 1);
            post.run(3);
            post.send(0, 1, rank);
            post.setTube(0, 1, true);
            post.run(1);
            Due.same("the first one gone, rank " + rank + " against 1", post.carrier(rank > 1 ? 1 : 0, 0), 2);
            Due.same("the other one waits", post.carrier(rank > 1 ? 0 : 1, 0), 1);
        }
    }

    // "the carriers there that have been handled": the others do not hold them, and do not go.
    private static void handledOnesAlone() {
        TubePost post = Nets.chain(2, 9, 4, 9);
        post.send(0, 1, 0);
        post.run(1);
        post.send(0, 1, 3);
        post.run(2);
        Due.same("none has been handled at 3", post.station(0, 4), 2);
        post.run(1);
        Due.same("the first one goes at 4", post.carrier(0, 0), 2);
        Due.same("the urgent one is handled", post.carrier(1, 0), 1);
        Due.same("it alone is there", post.there(0, 0), 1);
        post.run(1);
        Due.same("it goes at 5", post.carrier(1, 0), 2);
    }

    // "each one goes into its tube, if it can": one that cannot does not hold those behind it.
    private static void laterWayIsNotHeldByAnEarlierOne() {
        TubePost post = Nets.stations(3, 9, 0);
        post.addTube(0, 1, 9, 1, 1);
        post.addTube(0, 2, 9, 1, 1);
        Nets.send(post, 3, 0, 1, 3);
        post.send(0, 2, 0);
        post.run(1);
        Due.same("the first one goes", post.carrier(0, 0), 2);
        Due.same("the second one cannot", post.carrier(1, 0), 1);
        Due.same("the third one cannot", post.carrier(2, 0), 1);
        Due.same("the last one can", post.carrier(3, 1), 1);
        Due.same("it is in its tube", post.carrier(3, 0), 2);
        Due.same("the second one is first there", post.there(0, 0), 1);
        Due.same("the third one is next", post.there(0, 1), 2);
    }

    // "A carrier that comes at tick T is handled at T + the handling (at once, with 0 ..)"
    private static void comingAtATickWithHandling() {
        for (int handling = 0; handling <= 20; handling++) {
            TubePost post = Nets.stations(2, 9, handling);
            post.addTube(0, 1, 30, 1, 8);
            post.addEntry(4, 0, 2, 0, 1);
            post.run(3);
            if (handling > 0) {
                post.run(handling);
                Due.same("ahead of the tick 4 + " + handling, post.carrier(0, 0), 1);
            }
            post.run(1);
            Due.same("in the tick 4 + " + handling, post.carrier(0, 0), 2);
            Due.same("entered at", post.carrier(0, 5), 4 + handling);
        }
    }

    // "comes to the station .. at the end of the tick that is now, and is handled from then on"
    private static void sentByHandAtTheEndOfTheTick() {
        for (int handling = 0; handling <= 20; handling++) {
            TubePost post = Nets.stations(2, 9, handling);
            post.addTube(0, 1, 30, 1, 8);
            post.run(4);
            post.send(0, 1, 2);
            carrierIs("at the end of the tick 4", post, 0, 1, 0, 1, 2, 4, 4, 0);
            if (handling > 1) {
                post.run(handling - 1);
                Due.same("ahead of the tick 4 + " + handling, post.carrier(0, 0), 1);
            }
            post.run(1);
            // With the handling 0 it was too late for the tick 4, and goes in the next one.
            Due.same("handling " + handling, post.carrier(0, 0), 2);
            Due.same("entered at", post.carrier(0, 5), 4 + Math.max(handling, 1));
        }
    }

    // At the end of the tick: behind those that came in it, and a jam is none of its own tick.
    private static void sentByHandBehindTheArrivals() {
        TubePost post = Nets.deadEnd(2, 3);
        post.send(0, 2, 0);
        post.run(4);
        post.send(1, 2, 0);
        Due.same("the one by the tube is first", post.there(1, 0), 0);
        Due.same("the one by hand is behind it", post.there(1, 1), 1);
        Due.state("and no room is left", () -> post.send(1, 2, 0));
        TubePost early = Nets.deadEnd(2, 3);
        early.send(0, 2, 0);
        early.run(3);
        early.send(1, 2, 0);
        early.run(1);
        Due.same("a tick earlier the one by hand is first", early.there(1, 0), 1);
    }

    // "one that the clock sends comes in step 1 of its tick": ahead of those that come by tubes in the same tick.
    private static void sentByTheClockAheadOfTheArrivals() {
        for (int when = 4; when <= 5; when++) {
            TubePost post = Nets.deadEnd(2, 3);
            post.addEntry(when, 0, 2, 1, 2);
            post.send(0, 2, 1);
            post.run(5);
            Due.same("by the clock at " + when + ", first there", post.there(1, 0), when == 4 ? 1 : 0);
            Due.same("by the clock at " + when + ", second there", post.there(1, 1), when == 4 ? 0 : 1);
        }
    }

    // A run of many ticks is the same as many runs of one.
    private static void severalTicksAreOneAfterTheOther() {
        TubePost once = busy();
        TubePost tickByTick = busy();
        int delivered = 0;
        for (int i = 0; i < 150; i++) {
            delivered += tickByTick.run(1);
        }
        Due.same("delivered", once.run(150), delivered);
        Due.same("the digest", once.digest(), tickByTick.digest());
        Due.same("some were delivered", delivered > 10 ? 1 : 0, 1);
    }

    private static TubePost busy() {
        TubePost post = Nets.chain(4, 3, 2, 7);
        post.addTube(3, 0, 5, 2, 3);
        post.addEntry(1, 5, 2, 0, 2);
        post.addEntry(2, 7, 2, 1, 0);
        post.addEntry(3, 11, 2, 3, 1);
        post.addEntry(20, 40, 1, 1, 0);
        post.addEntry(30, 40, 1, 1, 1);
        return post;
    }
}
