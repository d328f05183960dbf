/** Promises 7 to 9: letters, and how a tick goes. */
public final class LettersTest {
    public static void main(String[] args) {
        sendArguments();
        sendNeedsRoom();
        fortyUnderWay();
        fiveHundredSent();
        runArguments();
        handlingAndTravel();
        timeIsRoundedUp();
        deliveredBelongsToTheRun();
        ranksGoFirst();
        olderGoFirst();
        oneEntersATick();
        boreIsKept();
        shutTubeIsNotEntered();
        switchLeadsAstray();
        freeCarrierWaitsForTheBestWay();
        jamHoldsAllBehind();
        deliveryNeedsNoRoom();
        fasterOneStaysBehind();
        jamDissolvesByAndBy();
        roomIsFreedBehindArrivals();
        tubesArriveInOrder();
        carrierArguments();
        Due.close("LettersTest");
    }

    /** Station 0 to station 1 to station 2, by a tube each, with the handling 0 but for the one in between. */
    private static TubePost chain(int handling, int room) {
        TubePost post = new TubePost();
        post.addStation(9, 0);
        post.addStation(room, handling);
        post.addStation(9, 0);
        post.addTube(0, 1, 2, 1, 8);
        post.addTube(1, 2, 2, 1, 8);
        return post;
    }

    private static void carrierIs(String when, TubePost post, int number, int... due) {
        for (int what = 0; what < due.length; what++) {
            Due.same(when + ": carrier(" + number + ", " + what + ")", post.carrier(number, what), due[what]);
        }
    }

    private static void sendArguments() {
        TubePost post = chain(0, 1);
        Due.index("send(-1, 0, 0)", () -> post.send(-1, 0, 0));
        Due.index("send(0, 3, 0)", () -> post.send(0, 3, 0));
        Due.index("send(3, 3, 9)", () -> post.send(3, 3, 9));
        Due.index("send(0, -1, 0)", () -> post.send(0, -1, 0));
        Due.argument("send(1, 1, 0)", () -> post.send(1, 1, 0));
        Due.argument("send(0, 1, -1)", () -> post.send(0, 1, -1));
        Due.argument("send(0, 1, 4)", () -> post.send(0, 1, 4));
        Due.same("sent behind refusals", post.count(4), 0);
        Due.same("send(0, 1, 0)", post.send(0, 1, 0), 0);
        Due.same("send(1, 0, 3)", post.send(1, 0, 3), 1);
        carrierIs("sent", post, 1, 1, 1, 0, 3, 0, 0, 0);
    }

    private static void sendNeedsRoom() {
        TubePost post = chain(5, 2);
        post.send(1, 2, 0);
        post.send(1, 2, 0);
        Due.state("send without room", () -> post.send(1, 2, 0));
        Due.argument("send without room, to itself", () -> post.send(1, 1, 0));
        Due.index("send without room, to nowhere", () -> post.send(1, 3, 0));
        Due.same("there", post.station(1, 4), 2);
        Due.same("to a full station", post.send(0, 1, 0), 2);
    }

    private static void fortyUnderWay() {
        TubePost post = new TubePost();
        for (int i = 0; i < 6; i++) {
            post.addStation(9, 0);
        }
        post.addTube(5, 4, 1, 1, 1);
        for (int i = 0; i < 39; i++) {
            post.send(i % 5, (i + 1) % 5, 0);
        }
        Due.same("the 40th", post.send(5, 4, 0), 39);
        Due.same("under way", post.count(5), 40);
        Due.state("the 41st", () -> post.send(5, 4, 0));
        post.addEntry(1, 1, 2, 5, 4);
        Due.same("run(1)", post.run(1), 0);
        Due.same("the clock sends no 41st", post.count(4), 40);
        Due.same("run(1)", post.run(1), 1);
        // The clock comes ahead of the arrivals of its tick, so the delivery made room for the next tick only.
        Due.same("not in the tick of the delivery", post.count(4), 40);
        post.run(1);
        Due.same("but in the next one", post.count(4), 41);
        Due.same("under way again", post.count(5), 40);
    }

    private static void fiveHundredSent() {
        TubePost post = new TubePost();
        post.addStation(9, 0);
        post.addStation(9, 0);
        post.addTube(0, 1, 1, 1, 8);
        post.addEntry(1, 1, 2, 0, 1);
        Due.same("run(499)", post.run(499), 498);
        Due.same("sent at 499", post.count(4), 499);
        Due.same("the 500th", post.send(0, 1, 3), 499);
        Due.state("the 501st", () -> post.send(0, 1, 3));
        Due.argument("the 501st with the rank 4", () -> post.send(0, 1, 4));
        Due.same("run(2)", post.run(2), 2);
        Due.same("sent at 501", post.count(4), 500);
        Due.same("all delivered", post.count(6), 500);
        Due.state("still the 501st", () -> post.send(0, 1, 3));
    }

    private static void runArguments() {
        TubePost post = new TubePost();
        Due.argument("run(0)", () -> post.run(0));
        Due.argument("run(-1)", () -> post.run(-1));
        Due.argument("run(501)", () -> post.run(501));
        Due.same("tick behind refusals", post.count(0), 0);
        Due.same("run(500)", post.run(500), 0);
        Due.same("run(1)", post.run(1), 0);
        Due.same("the tick", post.count(0), 501);
    }

    private static void handlingAndTravel() {
        TubePost post = chain(3, 1);
        post.send(0, 2, 2);
        post.run(1);
        carrierIs("at 1", post, 0, 2, 0, 2, 2, 0, 1, 1);
        post.run(1);
        carrierIs("at 2", post, 0, 2, 0, 2, 2, 0, 1, 1);
        post.run(1);
        carrierIs("at 3", post, 0, 1, 1, 2, 2, 0, 3, 1);
        post.run(2);
        carrierIs("at 5", post, 0, 1, 1, 2, 2, 0, 3, 1);
        post.run(1);
        carrierIs("at 6", post, 0, 2, 1, 2, 2, 0, 6, 2);
        Due.same("run to 7", post.run(1), 0);
        Due.same("run to 8", post.run(1), 1);
        carrierIs("at 8", post, 0, 3, 2, 2, 2, 0, 8, 2);
        post.run(5);
        carrierIs("later", post, 0, 3, 2, 2, 2, 0, 8, 2);
        // With the handling 0 it departs in the tick in which it comes.
        TubePost quick = chain(0, 1);
        quick.send(0, 2, 0);
        quick.run(3);
        carrierIs("quick at 3", quick, 0, 2, 1, 2, 0, 0, 3, 2);
    }

    private static void timeIsRoundedUp() {
        int[][] lengthSpeedTime = {{1, 1, 1}, {1, 6, 1}, {6, 6, 1}, {7, 6, 2}, {12, 6, 2}, {60, 6, 10}, {59, 6, 10}, {60, 1, 60}, {7, 2, 4}};
        for (int[] row : lengthSpeedTime) {
            TubePost post = new TubePost();
            post.addStation(1, 20);
            post.addStation(1, 20);
            post.addTube(0, 1, row[0], row[1], 1);
            Due.same("time " + row[0] + " / " + row[1], post.time(0, 1), row[2]);
            post.send(0, 1, 0);
            Due.same("run till it nearly comes", post.run(19 + row[2]), 0);
            Due.same("run till it comes", post.run(1), 1);
        }
    }

    private static void deliveredBelongsToTheRun() {
        TubePost post = chain(0, 9);
        post.send(0, 1, 0);
        post.send(0, 1, 0);
        post.send(0, 1, 0);
        Due.same("run(3)", post.run(3), 1);
        Due.same("run(2)", post.run(2), 2);
        Due.same("run(9)", post.run(9), 0);
    }

    private static void ranksGoFirst() {
        TubePost post = chain(0, 9);
        int[] ranks = {0, 2, 1, 3, 2};
        for (int rank : ranks) {
            post.send(0, 1, rank);
        }
        int[] due = {3, 1, 4, 2, 0};
        for (int i = 0; i < due.length; i++) {
            Due.same("there(0, " + i + ")", post.there(0, i), due[i]);
        }
        for (int i = 0; i < due.length; i++) {
            post.run(1);
            Due.same("entered at " + (i + 1), post.carrier(due[i], 5), i + 1);
        }
        // One that is still handled stands ahead by its rank, but does not hold the others.
        TubePost slow = new TubePost();
        slow.addStation(9, 2);
        slow.addStation(9, 0);
        slow.addTube(0, 1, 5, 1, 8);
        slow.send(0, 1, 0);
        slow.run(1);
        slow.send(0, 1, 3);
        Due.same("first there", slow.there(0, 0), 1);
        slow.run(1);
        Due.same("the handled one goes", slow.carrier(0, 0), 2);
        Due.same("the urgent one is still handled", slow.carrier(1, 0), 1);
        slow.run(1);
        Due.same("the urgent one goes", slow.carrier(1, 0), 2);
    }

    private static void olderGoFirst() {
        TubePost post = chain(0, 9);
        post.turn(0, 0);
        post.setTube(1, 1, false);
        post.send(0, 2, 1);
        post.run(2);
        post.send(1, 2, 1);
        post.run(1);
        Due.same("came first", post.there(1, 0), 1);
        Due.same("came later, though sent first", post.there(1, 1), 0);
        post.setTube(1, 1, true);
        post.run(1);
        Due.same("the older one there goes", post.carrier(1, 0), 2);
        Due.same("the other one stays", post.carrier(0, 0), 1);
    }

    private static void oneEntersATick() {
        TubePost post = chain(0, 9);
        for (int i = 0; i < 3; i++) {
            post.send(0, 1, 0);
        }
        for (int i = 0; i < 3; i++) {
            Due.same("entered so far", post.tube(0, 8), i);
            post.run(1);
        }
        Due.same("entered", post.tube(0, 8), 3);
        // Several depart in one tick if their tubes differ.
        TubePost fork = new TubePost();
        fork.addStation(9, 0);
        fork.addStation(9, 0);
        fork.addStation(9, 0);
        fork.addTube(0, 1, 5, 1, 1);
        fork.addTube(0, 2, 5, 1, 1);
        fork.send(0, 1, 0);
        fork.send(0, 1, 0);
        fork.send(0, 2, 0);
        fork.run(1);
        Due.same("0 goes", fork.carrier(0, 0), 2);
        Due.same("1 waits", fork.carrier(1, 0), 1);
        Due.same("2 goes by the other tube", fork.carrier(2, 0), 2);
    }

    private static void boreIsKept() {
        TubePost post = new TubePost();
        post.addStation(9, 0);
        post.addStation(9, 0);
        post.addTube(0, 1, 10, 1, 2);
        for (int i = 0; i < 4; i++) {
            post.send(0, 1, 0);
        }
        post.run(9);
        Due.same("in it at 9", post.tube(0, 6), 2);
        Due.same("waiting at 9", post.station(0, 4), 2);
        post.run(1);
        Due.same("entered at 10", post.tube(0, 8), 2);
        Due.same("the first one comes at 11", post.run(1), 1);
        Due.same("and the third one enters at 11", post.carrier(2, 5), 11);
        Due.same("in it at 11", post.tube(0, 6), 2);
    }

    private static void shutTubeIsNotEntered() {
        TubePost post = chain(0, 9);
        post.turn(0, 0);
        post.setTube(0, 1, false);
        post.send(0, 1, 0);
        post.run(5);
        Due.same("stays before a shut tube", post.carrier(0, 0), 1);
        Due.same("though it is its way", post.next(0, 1), 0);
        post.setTube(0, 1, true);
        post.run(1);
        Due.same("goes as it opens", post.carrier(0, 0), 2);
    }

    private static void switchLeadsAstray() {
        TubePost post = new TubePost();
        post.addStation(9, 0);
        post.addStation(1, 0);
        post.addStation(1, 0);
        post.addTube(0, 1, 1, 1, 1);
        post.addTube(0, 2, 1, 1, 1);
        post.turn(0, 1);
        post.send(0, 1, 0);
        post.run(2);
        carrierIs("led astray", post, 0, 1, 2, 1, 0, 0, 2, 1);
        post.run(10);
        carrierIs("no way on", post, 0, 1, 2, 1, 0, 0, 2, 1);
        Due.same("no way", post.next(2, 1), -1);
        post.addTube(2, 1, 1, 1, 1);
        Due.same("a new tube is taken", post.run(2), 1);
    }

    private static void freeCarrierWaitsForTheBestWay() {
        TubePost post = new TubePost();
        post.addStation(9, 0);
        post.addStation(9, 0);
        post.addTube(0, 1, 5, 1, 1);
        post.addTube(0, 1, 9, 1, 8);
        post.send(0, 1, 0);
        post.send(0, 1, 0);
        post.run(5);
        Due.same("the full tube is waited for", post.carrier(1, 0), 1);
        post.run(1);
        Due.same("and entered", post.carrier(1, 1), 0);
        Due.same("the other tube stays empty", post.tube(1, 8), 0);
    }

    private static void jamHoldsAllBehind() {
        TubePost post = chain(0, 1);
        post.turn(0, 0);
        post.setTube(1, 1, false);
        post.send(0, 2, 0);
        post.send(0, 2, 0);
        post.send(0, 1, 0);
        post.run(3);
        Due.same("the room is taken", post.station(1, 4), 1);
        Due.same("no jam at 3", post.tube(0, 7), 0);
        post.run(1);
        Due.same("a jam at 4", post.tube(0, 7), 1);
        Due.same("jams at 4", post.count(7), 1);
        Due.same("even a delivery is held", post.run(3), 0);
        Due.same("in the tube", post.tube(0, 6), 2);
        carrierIs("held", post, 2, 2, 0, 1, 0, 0, 3, 1);
        post.setTube(1, 1, true);
        Due.same("the room is freed at 8", post.run(1), 0);
        Due.same("still a jam at 8", post.tube(0, 7), 1);
        Due.same("both leave at 9", post.run(1), 1);
        Due.same("no jam at 9", post.count(7), 0);
        Due.same("came at 9 and went on", post.carrier(1, 5), 9);
    }

    private static void deliveryNeedsNoRoom() {
        TubePost post = chain(0, 1);
        post.setTube(1, 1, false);
        post.send(1, 2, 0);
        post.send(0, 1, 0);
        Due.same("delivered into a full station", post.run(3), 1);
        Due.same("delivered there", post.station(1, 5), 1);
        Due.same("carriers there", post.station(1, 4), 1);
    }

    private static void fasterOneStaysBehind() {
        TubePost post = new TubePost();
        post.addStation(9, 0);
        post.addStation(9, 0);
        post.addTube(0, 1, 60, 1, 8);
        post.send(0, 1, 0);
        post.send(0, 1, 0);
        post.run(1);
        post.setTube(0, 6, true);
        post.run(1);
        Due.same("nothing comes ahead of the first one", post.run(58), 0);
        Due.same("the first one is not jammed", post.tube(0, 7), 0);
        Due.same("both come at 61", post.run(1), 2);
        Due.same("tick of the second one", post.carrier(1, 5), 61);
    }

    private static void jamDissolvesByAndBy() {
        TubePost post = chain(4, 2);
        post.turn(0, 0);
        post.setTube(1, 1, false);
        post.send(1, 2, 0);
        post.send(1, 2, 0);
        for (int i = 0; i < 4; i++) {
            post.send(0, 2, 0);
        }
        post.run(10);
        Due.same("in the jammed tube", post.tube(0, 6), 4);
        post.setTube(1, 1, true);
        post.run(1);
        Due.same("one has gone at 11", post.station(1, 4), 1);
        post.run(1);
        Due.same("one comes, one goes at 12", post.station(1, 4), 1);
        Due.same("the first one came at 12", post.carrier(2, 5), 12);
        Due.same("in the tube at 12", post.tube(0, 6), 3);
        post.run(1);
        Due.same("the second one came at 13", post.carrier(3, 5), 13);
        Due.same("full again at 13", post.station(1, 4), 2);
        Due.same("jammed at 13", post.tube(0, 7), 1);
        post.run(3);
        Due.same("the first one is handled till 16", post.carrier(2, 5), 16);
        Due.same("it is in the next tube", post.carrier(2, 0), 2);
    }

    private static void roomIsFreedBehindArrivals() {
        TubePost post = chain(0, 1);
        post.send(0, 2, 0);
        post.send(0, 2, 0);
        post.run(3);
        Due.same("the first one goes on at 3", post.carrier(0, 5), 3);
        post.run(1);
        Due.same("the second one goes on at 4", post.carrier(1, 5), 4);
        Due.same("no jam", post.count(7), 0);
    }

    private static void tubesArriveInOrder() {
        TubePost post = new TubePost();
        for (int i = 0; i < 4; i++) {
            post.addStation(i == 2 ? 1 : 9, 1);
        }
        post.addTube(1, 2, 3, 1, 1);
        post.addTube(0, 2, 3, 1, 1);
        post.addTube(2, 3, 3, 1, 1);
        post.send(0, 3, 3);
        post.send(1, 3, 0);
        post.run(4);
        Due.same("tube 0 comes first", post.there(2, 0), 1);
        Due.same("tube 1 finds no room", post.tube(1, 7), 1);
        Due.same("tube 0 is empty", post.tube(0, 6), 0);
    }

    private static void carrierArguments() {
        TubePost post = chain(0, 1);
        Due.index("carrier(0, 0) of none", () -> post.carrier(0, 0));
        post.send(0, 2, 0);
        Due.index("carrier(1, 0)", () -> post.carrier(1, 0));
        Due.index("carrier(-1, 0)", () -> post.carrier(-1, 0));
        Due.index("carrier(0, 7)", () -> post.carrier(0, 7));
        Due.index("carrier(0, -1)", () -> post.carrier(0, -1));
    }
}
