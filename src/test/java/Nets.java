/** Nets that several tests begin with. */
final class Nets {
    private Nets() {
    }

    static TubePost stations(int many, int room, int handling) {
        TubePost post = new TubePost();
        for (int i = 0; i < many; i++) {
            post.addStation(room, handling);
        }
        return post;
    }

    /** Tube i leads from station i to station i + 1, with the speed 1 and the bore 8. */
    static TubePost chain(int many, int room, int handling, int length) {
        TubePost post = stations(many, room, handling);
        for (int i = 1; i < many; i++) {
            post.addTube(i - 1, i, length, 1, 8);
        }
        return post;
    }

    /** Station 0 sends to station 1 through tube 0 with its switch set, and nothing leads on to station 2. */
    static TubePost deadEnd(int room, int length) {
        TubePost post = new TubePost();
        post.addStation(9, 0);
        post.addStation(room, 0);
        post.addStation(9, 0);
        post.addTube(0, 1, length, 1, 8);
        post.turn(0, 0);
        return post;
    }

    static void send(TubePost post, int many, int from, int aim, int rank) {
        for (int i = 0; i < many; i++) {
            post.send(from, aim, rank);
        }
    }
}
