import java.util.ArrayList;
import java.util.Comparator;
import java.util.List;

/**
 * The document told a second time, as plainly as can be and with nothing kept that can be looked up anew:
 * who is where is found by sifting all carriers, and each way is reckoned from nothing.
 */
final class Model {
    static final class Stop {
        int room, handling, turned = -1, delivered;
        final List<Integer> out = new ArrayList<>();
    }

    static final class Pipe {
        int from, to, length, speed, bore, entered;
        boolean open = true, jammed, usedInThisTick;
    }

    static final class Letter {
        int number, aim, rank, sent, state, place, since, through, tubes;
        long turnToCome;
    }

    static final class Clockwork {
        int next, period, sort, what, how;
    }

    final List<Stop> stops = new ArrayList<>();
    final List<Pipe> pipes = new ArrayList<>();
    final List<Letter> letters = new ArrayList<>();
    final List<Clockwork> table = new ArrayList<>();
    int now;
    long moves;

    private static void index(boolean holds) {
        if (!holds) {
            throw new IndexOutOfBoundsException();
        }
    }

    private static void argument(boolean holds) {
        if (!holds) {
            throw new IllegalArgumentException();
        }
    }

    private static void state(boolean holds) {
        if (!holds) {
            throw new IllegalStateException();
        }
    }

    private boolean isStop(int s) {
        return 0 <= s && s < stops.size();
    }

    private boolean isPipe(int t) {
        return 0 <= t && t < pipes.size();
    }

    int addStation(int room, int handling) {
        argument(1 <= room && room <= 9);
        argument(0 <= handling && handling <= 20);
        state(stops.size() < 14);
        Stop s = new Stop();
        s.room = room;
        s.handling = handling;
        stops.add(s);
        return stops.size() - 1;
    }

    int addTube(int from, int to, int length, int speed, int bore) {
        index(isStop(from) && isStop(to));
        argument(from != to);
        argument(1 <= length && length <= 60 && 1 <= speed && speed <= 6 && 1 <= bore && bore <= 8);
        state(pipes.size() < 30 && stops.get(from).out.size() < 4);
        Pipe p = new Pipe();
        p.from = from;
        p.to = to;
        p.length = length;
        p.speed = speed;
        p.bore = bore;
        stops.get(from).out.add(pipes.size());
        pipes.add(p);
        return pipes.size() - 1;
    }

    int turn(int station, int way) {
        index(isStop(station));
        Stop s = stops.get(station);
        argument(-1 <= way && way <= s.out.size() - 1);
        int before = s.turned;
        s.turned = way;
        return before;
    }

    int setTube(int tube, int speed, boolean isOpen) {
        index(isPipe(tube));
        argument(1 <= speed && speed <= 6);
        Pipe p = pipes.get(tube);
        int before = p.speed;
        p.speed = speed;
        p.open = isOpen;
        return before;
    }

    int addEntry(int first, int period, int sort, int what, int how) {
        argument(first > now && first <= 100000 && 0 <= period && period <= 500 && 0 <= sort && sort <= 2);
        if (sort == 0) {
            index(isStop(what) && -1 <= how && how < stops.get(what).out.size());
        } else if (sort == 1) {
            index(isPipe(what) && (how == 0 || how == 1));
        } else {
            index(isStop(what) && isStop(how));
        }
        state(table.size() < 12);
        Clockwork e = new Clockwork();
        e.next = first;
        e.period = period;
        e.sort = sort;
        e.what = what;
        e.how = how;
        table.add(e);
        return table.size() - 1;
    }

    private int deliveredInAll() {
        int sum = 0;
        for (Letter l : letters) {
            sum += l.state == 3 ? 1 : 0;
        }
        return sum;
    }

    private boolean canSend(int from) {
        return waiting(from).size() < stops.get(from).room && letters.size() - deliveredInAll() < 40
                && letters.size() < 500;
    }

    int send(int from, int aim, int rank) {
        index(isStop(from) && isStop(aim));
        argument(from != aim && 0 <= rank && rank <= 3);
        state(canSend(from));
        Letter l = new Letter();
        l.number = letters.size();
        l.aim = aim;
        l.rank = rank;
        l.sent = now;
        letters.add(l);
        settle(l, from);
        return l.number;
    }

    private void settle(Letter l, int stop) {
        l.state = 1;
        l.place = stop;
        l.since = now;
        l.turnToCome = moves++;
    }

    private List<Letter> waiting(int stop) {
        List<Letter> found = new ArrayList<>();
        for (Letter l : letters) {
            if (l.state == 1 && l.place == stop) {
                found.add(l);
            }
        }
        found.sort(Comparator.comparingInt((Letter l) -> -l.rank).thenComparingLong(l -> l.turnToCome));
        return found;
    }

    private List<Letter> within(int pipe) {
        List<Letter> found = new ArrayList<>();
        for (Letter l : letters) {
            if (l.state == 2 && l.place == pipe) {
                found.add(l);
            }
        }
        found.sort(Comparator.comparingLong(l -> l.turnToCome));
        return found;
    }

    int run(int ticks) {
        argument(1 <= ticks && ticks <= 500);
        int before = deliveredInAll();
        for (int i = 0; i < ticks; i++) {
            now++;
            clock();
            arrivals();
            departures();
        }
        return deliveredInAll() - before;
    }

    private void clock() {
        for (Clockwork e : table) {
            if (now != e.next) {
                continue;
            }
            e.next = e.period == 0 ? -1 : now + e.period;
            if (e.sort == 0) {
                turn(e.what, e.how);
            } else if (e.sort == 1) {
                pipes.get(e.what).open = e.how == 1;
            } else if (e.what != e.how && canSend(e.what)) {
                send(e.what, e.how, 1);
            }
        }
    }

    private void arrivals() {
        for (int t = 0; t < pipes.size(); t++) {
            Pipe p = pipes.get(t);
            p.jammed = false;
            for (Letter l : within(t)) {
                if (now - l.since < l.through) {
                    break;
                }
                if (l.aim == p.to) {
                    l.state = 3;
                    l.place = l.aim;
                    l.since = now;
                    stops.get(p.to).delivered++;
                } else if (waiting(p.to).size() < stops.get(p.to).room) {
                    settle(l, p.to);
                } else {
                    p.jammed = true;
                    break;
                }
            }
        }
    }

    private void departures() {
        for (Pipe p : pipes) {
            p.usedInThisTick = false;
        }
        for (int s = 0; s < stops.size(); s++) {
            for (Letter l : waiting(s)) {
                int way = now < l.since + stops.get(s).handling ? -1 : next(s, l.aim);
                if (way == -1) {
                    continue;
                }
                int t = stops.get(s).out.get(way);
                Pipe p = pipes.get(t);
                if (p.open && !p.usedInThisTick && within(t).size() < p.bore) {
                    p.usedInThisTick = true;
                    p.entered++;
                    l.state = 2;
                    l.place = t;
                    l.since = now;
                    l.through = through(p);
                    l.tubes++;
                    l.turnToCome = moves++;
                }
            }
        }
    }

    private static int through(Pipe p) {
        return (int) Math.ceil((double) p.length / p.speed);
    }

    int carrier(int carrier, int what) {
        index(0 <= carrier && carrier < letters.size() && 0 <= what && what <= 6);
        Letter l = letters.get(carrier);
        return new int[] {l.state, l.place, l.aim, l.rank, l.sent, l.since, l.tubes}[what];
    }

    int count(int what) {
        index(0 <= what && what <= 8);
        int jams = 0;
        for (Pipe p : pipes) {
            jams += p.jammed ? 1 : 0;
        }
        int done = deliveredInAll();
        return new int[] {now, stops.size(), pipes.size(), table.size(), letters.size(), letters.size() - done, done,
            jams, ticksOfDelivered()}[what];
    }

    private int ticksOfDelivered() {
        int sum = 0;
        for (Letter l : letters) {
            sum += l.state == 3 ? l.since - l.sent : 0;
        }
        return sum;
    }

    int station(int station, int what) {
        index(isStop(station) && 0 <= what && what <= 5);
        Stop s = stops.get(station);
        return new int[] {s.room, s.handling, s.out.size(), s.turned, waiting(station).size(), s.delivered}[what];
    }

    int tube(int tube, int what) {
        index(isPipe(tube) && 0 <= what && what <= 8);
        Pipe p = pipes.get(tube);
        return new int[] {p.from, p.to, p.length, p.speed, p.bore, p.open ? 1 : 0, within(tube).size(),
            p.jammed ? 1 : 0, p.entered}[what];
    }

    int there(int station, int index) {
        index(isStop(station));
        List<Letter> line = waiting(station);
        index(0 <= index && index < line.size());
        return line.get(index).number;
    }

    /** All least times at once: from each station to each one, -1 where there is no way. */
    private int[][] leastTimes(int leftOut) {
        int n = stops.size();
        int[][] least = new int[n][n];
        for (int a = 0; a < n; a++) {
            for (int b = 0; b < n; b++) {
                least[a][b] = a == b ? 0 : -1;
            }
        }
        for (int t = 0; t < pipes.size(); t++) {
            Pipe p = pipes.get(t);
            int old = least[p.from][p.to];
            if (p.open && t != leftOut && (old < 0 || through(p) < old)) {
                least[p.from][p.to] = through(p);
            }
        }
        for (int via = 0; via < n; via++) {
            for (int a = 0; a < n; a++) {
                for (int b = 0; b < n; b++) {
                    if (a == via || b == via || least[a][via] < 0 || least[via][b] < 0) {
                        continue;
                    }
                    int sum = least[a][via] + stops.get(via).handling + least[via][b];
                    if (least[a][b] < 0 || sum < least[a][b]) {
                        least[a][b] = sum;
                    }
                }
            }
        }
        return least;
    }

    int time(int from, int aim) {
        index(isStop(from) && isStop(aim));
        return leastTimes(-1)[from][aim];
    }

    int next(int from, int aim) {
        index(isStop(from) && isStop(aim));
        Stop s = stops.get(from);
        if (from == aim || s.turned != -1) {
            return from == aim ? -1 : s.turned;
        }
        int[][] least = leastTimes(-1);
        for (int way = 0; way < s.out.size(); way++) {
            Pipe p = pipes.get(s.out.get(way));
            int rest = p.to == aim ? 0 : least[p.to][aim] < 0 ? -1 : stops.get(p.to).handling + least[p.to][aim];
            if (p.open && rest >= 0 && through(p) + rest == least[from][aim]) {
                return way;
            }
        }
        return -1;
    }

    int parts(int tube) {
        index(isPipe(tube));
        int[][] with = leastTimes(-1);
        int[][] without = leastTimes(tube);
        int pairs = 0;
        for (int a = 0; a < stops.size(); a++) {
            for (int b = 0; b < stops.size(); b++) {
                pairs += with[a][b] >= 0 && without[a][b] < 0 ? 1 : 0;
            }
        }
        return pairs;
    }

    double mean() {
        return deliveredInAll() == 0 ? 0 : (double) ticksOfDelivered() / deliveredInAll();
    }

    long digest() {
        List<Integer> all = new ArrayList<>();
        for (int what = 0; what <= 8; what++) {
            all.add(count(what));
        }
        for (int s = 0; s < stops.size(); s++) {
            for (int what = 0; what <= 5; what++) {
                all.add(station(s, what));
            }
            for (Letter l : waiting(s)) {
                all.add(l.number);
            }
        }
        for (int t = 0; t < pipes.size(); t++) {
            for (int what = 0; what <= 8; what++) {
                all.add(tube(t, what));
            }
        }
        for (int c = 0; c < letters.size(); c++) {
            for (int what = 0; what <= 6; what++) {
                all.add(carrier(c, what));
            }
        }
        long d = 457;
        for (int x : all) {
            d = d * 31 + x;
        }
        return d;
    }
}
