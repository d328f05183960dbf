import java.util.Random;

/** Random runs of up to 512 calls, as many as an object is for, each answer and each exception against the Model's. */
public final class ModelTest {
    private static final int RUNS = 500;
    private static final int CALLS = 512;
    private static final int CALLS_OF_A_LOOK = 9;
    private static final int[] WILD = {Integer.MIN_VALUE, Integer.MAX_VALUE, -1000000, -2, -1, 0, 1, 2, 14, 30, 40, 500,
        501, 100000, 100001, 1000000};

    private final Random random;
    private final TubePost post = new TubePost();
    private final Model model = new Model();
    private final int stations;
    private final int longestRun;
    private final int wildness;
    private int calls = 0;

    private ModelTest(int seed) {
        random = new Random(seed);
        stations = 2 + random.nextInt(13);
        longestRun = new int[] {1, 3, 10, 40, 150}[random.nextInt(5)];
        wildness = new int[] {0, 2, 10}[random.nextInt(3)];
    }

    public static void main(String[] args) {
        for (int seed = 0; seed < RUNS; seed++) {
            new ModelTest(seed).play(seed);
        }
        Due.close("ModelTest");
    }

    private void play(int seed) {
        for (int step = 0; calls + CALLS_OF_A_LOOK + 1 <= CALLS; step++) {
            String before = "run " + seed + ", step " + step + ": ";
            if (step < stations) {
                addStation(before);
            } else if (step < 3 * stations) {
                addTube(before);
            } else {
                anyCall(before);
            }
            if (step % 4 == 3) {
                both(before + "digest() behind it", post::digest, model::digest);
            }
        }
    }

    /** A number from least to most, or, now and then, one just outside or far out. */
    private int pick(int least, int most) {
        if (random.nextInt(100) < wildness) {
            return random.nextBoolean() ? WILD[random.nextInt(WILD.length)]
                    : random.nextBoolean() ? least - 1 : most + 1;
        }
        return most < least ? least : least + random.nextInt(most - least + 1);
    }

    private int pickStation() {
        return pick(0, model.stops.size() - 1);
    }

    private int pickTube() {
        return pick(0, model.pipes.size() - 1);
    }

    private int pickWay(int station) {
        boolean isThere = station >= 0 && station < model.stops.size();
        return pick(-1, isThere ? model.stops.get(station).out.size() - 1 : 0);
    }

    private void both(String call, Due.Call ours, Due.Call theirs) {
        calls++;
        Due.same(call, answer(ours, true), answer(theirs, false));
    }

    private static long answer(Due.Call call, boolean isOurs) {
        try {
            return call.answer();
        } catch (RuntimeException thrown) {
            if (isOurs && !Due.isThrownByThePost(thrown)) {
                return Long.MIN_VALUE;
            }
            Class<?> kind = thrown.getClass();
            return kind == IndexOutOfBoundsException.class ? Long.MIN_VALUE + 1
                    : kind == IllegalArgumentException.class ? Long.MIN_VALUE + 2
                    : kind == IllegalStateException.class ? Long.MIN_VALUE + 3 : Long.MIN_VALUE + 4;
        }
    }

    private void addStation(String before) {
        int room = pick(1, random.nextBoolean() ? 2 : 9);
        int handling = pick(0, random.nextBoolean() ? 2 : 20);
        both(before + "addStation(" + room + ", " + handling + ")", () -> post.addStation(room, handling),
                () -> model.addStation(room, handling));
    }

    private void addTube(String before) {
        int from = pickStation();
        int to = pickStation();
        int length = pick(1, random.nextBoolean() ? 6 : 60);
        int speed = pick(1, 6);
        int bore = pick(1, random.nextBoolean() ? 2 : 8);
        both(before + "addTube(" + from + ", " + to + ", " + length + ", " + speed + ", " + bore + ")",
                () -> post.addTube(from, to, length, speed, bore), () -> model.addTube(from, to, length, speed, bore));
    }

    private void turn(String before) {
        int station = pickStation();
        int way = random.nextBoolean() ? -1 : pickWay(station);
        both(before + "turn(" + station + ", " + way + ")", () -> post.turn(station, way),
                () -> model.turn(station, way));
    }

    private void setTube(String before) {
        int tube = pickTube();
        int speed = pick(1, 6);
        boolean isOpen = random.nextInt(3) > 0;
        both(before + "setTube(" + tube + ", " + speed + ", " + isOpen + ")", () -> post.setTube(tube, speed, isOpen),
                () -> model.setTube(tube, speed, isOpen));
    }

    private void addEntry(String before) {
        int first = pick(model.now + 1, model.now + 20);
        int period = pick(0, random.nextBoolean() ? 7 : 500);
        int sort = random.nextBoolean() ? 2 : pick(0, 2);
        int what = sort == 1 ? pickTube() : pickStation();
        int how = sort == 1 ? pick(0, 1) : sort == 2 ? pickStation() : pickWay(what);
        both(before + "addEntry(" + first + ", " + period + ", " + sort + ", " + what + ", " + how + ")",
                () -> post.addEntry(first, period, sort, what, how),
                () -> model.addEntry(first, period, sort, what, how));
    }

    private void send(String before) {
        int from = pickStation();
        int aim = pickStation();
        int rank = pick(0, 3);
        both(before + "send(" + from + ", " + aim + ", " + rank + ")", () -> post.send(from, aim, rank),
                () -> model.send(from, aim, rank));
    }

    private void run(String before) {
        int ticks = pick(1, longestRun);
        both(before + "run(" + ticks + ")", () -> post.run(ticks), () -> model.run(ticks));
    }

    private void look(String before) {
        int carrier = pick(0, model.letters.size() - 1);
        int station = pickStation();
        int aim = pickStation();
        int tube = pickTube();
        int what = pick(0, 8);
        String with = " with " + carrier + ", " + station + ", " + aim + ", " + tube + ", " + what;
        both(before + "carrier" + with, () -> post.carrier(carrier, what), () -> model.carrier(carrier, what));
        both(before + "count" + with, () -> post.count(what), () -> model.count(what));
        both(before + "station" + with, () -> post.station(station, what), () -> model.station(station, what));
        both(before + "tube" + with, () -> post.tube(tube, what), () -> model.tube(tube, what));
        both(before + "there" + with, () -> post.there(station, what), () -> model.there(station, what));
        both(before + "time" + with, () -> post.time(station, aim), () -> model.time(station, aim));
        both(before + "next" + with, () -> post.next(station, aim), () -> model.next(station, aim));
        both(before + "parts" + with, () -> post.parts(tube), () -> model.parts(tube));
        both(before + "mean()" + with, () -> Double.doubleToLongBits(post.mean()),
                () -> Double.doubleToLongBits(model.mean()));
    }

    private void anyCall(String before) {
        int choice = random.nextInt(100);
        if (choice < 30) {
            send(before);
        } else if (choice < 60) {
            run(before);
        } else if (choice < 70) {
            look(before);
        } else if (choice < 78) {
            setTube(before);
        } else if (choice < 86) {
            turn(before);
        } else if (choice < 90) {
            addTube(before);
        } else if (choice < 97) {
            addEntry(before);
        } else {
            addStation(before);
        }
    }
}
