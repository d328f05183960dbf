import java.util.ArrayList;
import java.util.Arrays;

/** A post office of pneumatic tubes, worked by clockwork. */
public final class TubePost {
    private static final int STATIONS_AT_MOST = 14;
    private static final int ROOM_AT_MOST = 9;
    private static final int HANDLING_AT_MOST = 20;
    private static final int WAYS_AT_MOST = 4;

    private static final int TUBES_AT_MOST = 30;
    private static final int LENGTH_AT_MOST = 60;
    private static final int SPEED_AT_MOST = 6;
    private static final int BORE_AT_MOST = 8;

    private static final int ENTRIES_AT_MOST = 12;
    private static final int FIRST_AT_MOST = 100000;
    private static final int PERIOD_AT_MOST = 500;
    private static final int SORT_SWITCH = 0;
    private static final int SORT_TUBE = 1;
    private static final int SORT_SEND = 2;

    private static final int RANK_AT_MOST = 3;
    private static final int CLOCK_RANK = 1;
    private static final int UNDER_WAY_AT_MOST = 40;
    private static final int SENT_AT_MOST = 500;
    private static final int TICKS_AT_MOST = 500;

    private static final int AT_STATION = 1;
    private static final int IN_TUBE = 2;
    private static final int DELIVERED = 3;

    private static final int COUNT_WHATS = 9;
    private static final int STATION_WHATS = 6;
    private static final int TUBE_WHATS = 9;
    private static final int CARRIER_WHATS = 7;

    private static final int NO_TUBE = -1;
    private static final int NO_WAY = -1;
    private static final int FREE = -1;
    /** Far above the longest way: 13 tubes of 60 ticks and 12 handlings of 20. */
    private static final int NEVER = 1000000;

    private final Net net;
    private final ArrayList<Entry> entries;
    private final ArrayList<Carrier> carriers;
    private int tick;
    private int delivered;
    private int ticksUnderWay;

    public TubePost() {
        net = new Net();
        entries = new ArrayList<>();
        carriers = new ArrayList<>();
        tick = 0;
        delivered = 0;
        ticksUnderWay = 0;
    }

    // ---- the net

    public int addStation(int room, int handling) throws IllegalArgumentException, IllegalStateException {
        if (isOutside(room, 1, ROOM_AT_MOST) || isOutside(handling, 0, HANDLING_AT_MOST)) {
            throw new IllegalArgumentException("a room is 1 to 9, a handling 0 to 20");
        }
        if (net.stations.size() >= STATIONS_AT_MOST) {
            throw new IllegalStateException("there are 14 stations");
        }
        return net.build(room, handling);
    }

    public int addTube(int from, int to, int length, int speed, int bore)
            throws IndexOutOfBoundsException, IllegalArgumentException, IllegalStateException {
        Station start = knownStation(from);
        Station end = knownStation(to);
        if (start == end || isOutside(length, 1, LENGTH_AT_MOST) || isOutside(bore, 1, BORE_AT_MOST)) {
            throw new IllegalArgumentException("a tube leads to another station, a length is 1 to 60, a bore 1 to 8");
        }
        refuseWrongSpeed(speed);
        if (net.tubes.size() >= TUBES_AT_MOST || start.ways.size() >= WAYS_AT_MOST) {
            throw new IllegalStateException("there are 30 tubes, or 4 ways out");
        }
        return net.lay(start, end, length, speed, bore);
    }

    public int turn(int station, int way) throws IndexOutOfBoundsException, IllegalArgumentException {
        Station turned = knownStation(station);
        if (!turned.hasSwitchFor(way)) {
            throw new IllegalArgumentException("a way is -1, or one of the ways out");
        }
        int before = turned.switchedTo;
        turned.switchedTo = way;
        return before;
    }

    public int setTube(int tube, int speed, boolean isOpen) throws IndexOutOfBoundsException, IllegalArgumentException {
        Tube changed = knownTube(tube);
        refuseWrongSpeed(speed);
        int before = changed.speed;
        net.set(changed, speed, isOpen);
        return before;
    }

    public int addEntry(int first, int period, int sort, int what, int how)
            throws IllegalArgumentException, IndexOutOfBoundsException, IllegalStateException {
        if (first <= tick || first > FIRST_AT_MOST || isOutside(period, 0, PERIOD_AT_MOST)
                || isOutside(sort, SORT_SWITCH, SORT_SEND)) {
            throw new IllegalArgumentException("a first tick lies ahead, a period is 0 to 500, a sort 0 to 2");
        }
        refuseWrongDeed(sort, what, how);
        if (entries.size() >= ENTRIES_AT_MOST) {
            throw new IllegalStateException("there are 12 entries");
        }
        entries.add(new Entry(first, period, sort, what, how));
        return entries.size() - 1;
    }

    private void refuseWrongDeed(int sort, int what, int how) {
        if (sort == SORT_TUBE) {
            knownTube(what);
            if (isOutside(how, 0, 1)) {
                throw new IndexOutOfBoundsException("a tube is set to 0 or 1");
            }
            return;
        }
        Station place = knownStation(what);
        if (sort == SORT_SEND) {
            knownStation(how);
        } else if (!place.hasSwitchFor(how)) {
            throw new IndexOutOfBoundsException("there is no such way");
        }
    }

    // ---- letters

    public int send(int from, int aim, int rank)
            throws IndexOutOfBoundsException, IllegalArgumentException, IllegalStateException {
        Station start = knownStation(from);
        Station end = knownStation(aim);
        if (start == end || isOutside(rank, 0, RANK_AT_MOST)) {
            throw new IllegalArgumentException("a carrier goes to another station, its rank is 0 to 3");
        }
        if (!canTakeLetterAt(start)) {
            throw new IllegalStateException("there is no room, or there are too many carriers");
        }
        dispatch(start, end, rank);
        return carriers.size() - 1;
    }

    public int run(int ticks) throws IllegalArgumentException {
        if (isOutside(ticks, 1, TICKS_AT_MOST)) {
            throw new IllegalArgumentException("ticks are 1 to 500");
        }
        int before = delivered;
        for (int i = 0; i < ticks; i++) {
            tick++;
            strikeClock();
            arriveEverywhere();
            departEverywhere();
        }
        return delivered - before;
    }

    public int carrier(int carrier, int what) throws IndexOutOfBoundsException {
        if (isOutside(carrier, 0, carriers.size() - 1)) {
            throw new IndexOutOfBoundsException("no carrier has had this number");
        }
        Carrier asked = carriers.get(carrier);
        switch (what) {
            case 0: return asked.state;
            case 1: return asked.place;
            case 2: return asked.aim.number;
            case 3: return asked.rank;
            case 4: return asked.sentAt;
            case 5: return asked.since;
            case 6: return asked.tubesEntered;
            default: throw new IndexOutOfBoundsException("what is 0 to 6");
        }
    }

    // ---- what is there

    public int count(int what) throws IndexOutOfBoundsException {
        switch (what) {
            case 0: return tick;
            case 1: return net.stations.size();
            case 2: return net.tubes.size();
            case 3: return entries.size();
            case 4: return carriers.size();
            case 5: return underWay();
            case 6: return delivered;
            case 7: return jammedTubes();
            case 8: return ticksUnderWay;
            default: throw new IndexOutOfBoundsException("what is 0 to 8");
        }
    }

    public int station(int station, int what) throws IndexOutOfBoundsException {
        Station asked = knownStation(station);
        switch (what) {
            case 0: return asked.room;
            case 1: return asked.handling;
            case 2: return asked.ways.size();
            case 3: return asked.switchedTo;
            case 4: return asked.line.size();
            case 5: return asked.received;
            default: throw new IndexOutOfBoundsException("what is 0 to 5");
        }
    }

    public int tube(int tube, int what) throws IndexOutOfBoundsException {
        Tube asked = knownTube(tube);
        switch (what) {
            case 0: return asked.from.number;
            case 1: return asked.to.number;
            case 2: return asked.length;
            case 3: return asked.speed;
            case 4: return asked.bore;
            case 5: return asked.isOpen ? 1 : 0;
            case 6: return asked.inside.size();
            case 7: return asked.isFirstAtEnd(tick) ? 1 : 0;
            case 8: return asked.entered;
            default: throw new IndexOutOfBoundsException("what is 0 to 8");
        }
    }

    public int there(int station, int index) throws IndexOutOfBoundsException {
        ArrayList<Carrier> line = knownStation(station).line;
        if (isOutside(index, 0, line.size() - 1)) {
            throw new IndexOutOfBoundsException("there is no such carrier");
        }
        return line.get(index).number;
    }

    // ---- ways

    public int time(int from, int aim) throws IndexOutOfBoundsException {
        int least = net.leastTime(knownStation(from), knownStation(aim));
        return least == NEVER ? -1 : least;
    }

    public int next(int from, int aim) throws IndexOutOfBoundsException {
        return net.wayFor(knownStation(from), knownStation(aim));
    }

    public int parts(int tube) throws IndexOutOfBoundsException {
        return net.pairsPartedWithout(knownTube(tube));
    }

    public double mean() {
        if (delivered == 0) {
            return 0.0;
        }
        return (double) ticksUnderWay / (double) delivered;
    }

    public long digest() {
        long sum = 457;
        for (int what = 0; what < COUNT_WHATS; what++) {
            sum = sum * 31 + count(what);
        }
        for (int i = 0; i < net.stations.size(); i++) {
            sum = digestStation(sum, i);
        }
        for (int i = 0; i < net.tubes.size(); i++) {
            for (int what = 0; what < TUBE_WHATS; what++) {
                sum = sum * 31 + tube(i, what);
            }
        }
        for (int i = 0; i < carriers.size(); i++) {
            for (int what = 0; what < CARRIER_WHATS; what++) {
                sum = sum * 31 + carrier(i, what);
            }
        }
        return sum;
    }

    private long digestStation(long before, int number) {
        long sum = before;
        for (int what = 0; what < STATION_WHATS; what++) {
            sum = sum * 31 + station(number, what);
        }
        int carriersThere = station(number, 4);
        for (int index = 0; index < carriersThere; index++) {
            sum = sum * 31 + there(number, index);
        }
        return sum;
    }

    // ---- arguments

    private static boolean isOutside(int number, int least, int most) {
        return number < least || number > most;
    }

    private Station knownStation(int number) {
        if (!net.hasStation(number)) {
            throw new IndexOutOfBoundsException("there is no such station");
        }
        return net.stations.get(number);
    }

    private Tube knownTube(int number) {
        if (!net.hasTube(number)) {
            throw new IndexOutOfBoundsException("there is no such tube");
        }
        return net.tubes.get(number);
    }

    private static void refuseWrongSpeed(int speed) {
        if (isOutside(speed, 1, SPEED_AT_MOST)) {
            throw new IllegalArgumentException("a speed is 1 to 6");
        }
    }

    // ---- a tick

    private void strikeClock() {
        for (int i = 0; i < entries.size(); i++) {
            Entry entry = entries.get(i);
            if (entry.isDueAt(tick)) {
                carryOut(entry);
            }
        }
    }

    // addEntry has looked at what and how, and nothing is ever taken away: in each branch they are there.
    private void carryOut(Entry entry) {
        if (entry.sort == SORT_TUBE && net.hasTube(entry.what)) {
            Tube tube = net.tubes.get(entry.what);
            net.set(tube, tube.speed, entry.how == 1);
        } else if (entry.sort == SORT_SWITCH && net.hasStation(entry.what)) {
            net.stations.get(entry.what).switchedTo = entry.how;
        } else if (entry.sort == SORT_SEND && net.hasStation(entry.what) && net.hasStation(entry.how)) {
            sendByClock(net.stations.get(entry.what), net.stations.get(entry.how));
        }
    }

    private void sendByClock(Station from, Station aim) {
        if (from != aim && canTakeLetterAt(from)) {
            dispatch(from, aim, CLOCK_RANK);
        }
    }

    private void arriveEverywhere() {
        for (int i = 0; i < net.tubes.size(); i++) {
            arriveFrom(net.tubes.get(i));
        }
    }

    private void arriveFrom(Tube tube) {
        for (int left = tube.inside.size(); left > 0 && tube.isFirstAtEnd(tick); left--) {
            Carrier first = tube.inside.get(0);
            if (first.aim == tube.to) {
                deliver(first);
            } else if (tube.to.hasRoom()) {
                first.comeTo(tube.to, tick);
            } else {
                return;
            }
            tube.inside.remove(0);
        }
    }

    private void deliver(Carrier carrier) {
        carrier.state = DELIVERED;
        carrier.place = carrier.aim.number;
        carrier.since = tick;
        carrier.aim.received++;
        delivered++;
        ticksUnderWay += tick - carrier.sentAt;
    }

    private void departEverywhere() {
        for (int i = 0; i < net.stations.size(); i++) {
            departFrom(net.stations.get(i));
        }
    }

    private void departFrom(Station station) {
        ArrayList<Carrier> line = station.line;
        int stayed = 0;
        for (int left = line.size(); left > 0 && stayed < line.size(); left--) {
            Carrier carrier = line.get(stayed);
            Tube tube = tubeToEnter(station, carrier);
            if (tube == null) {
                stayed++;
            } else {
                line.remove(stayed);
                carrier.enter(tube, tick);
            }
        }
    }

    /** The tube that the carrier goes into now, null if it stays. */
    private Tube tubeToEnter(Station station, Carrier carrier) {
        if (tick - carrier.since < station.handling) {
            return null;
        }
        int way = net.wayFor(station, carrier.aim);
        if (isOutside(way, 0, station.ways.size() - 1)) {
            return null;
        }
        Tube tube = station.ways.get(way);
        return tube.canBeEnteredAt(tick) ? tube : null;
    }

    // ---- carriers and jams

    private int underWay() {
        return carriers.size() - delivered;
    }

    private boolean canTakeLetterAt(Station station) {
        return station.hasRoom() && underWay() < UNDER_WAY_AT_MOST && carriers.size() < SENT_AT_MOST;
    }

    private void dispatch(Station from, Station aim, int rank) {
        Carrier carrier = new Carrier(carriers.size(), aim, rank, tick);
        carriers.add(carrier);
        carrier.comeTo(from, tick);
    }

    private int jammedTubes() {
        int jammed = 0;
        for (int i = 0; i < net.tubes.size(); i++) {
            if (net.tubes.get(i).isFirstAtEnd(tick)) {
                jammed++;
            }
        }
        return jammed;
    }

    private static final class Station {
        private final int number;
        private final int room;
        private final int handling;
        private final ArrayList<Tube> ways;
        /** Who is here, in the order in which they would depart. */
        private final ArrayList<Carrier> line;
        /** From each station the least time to this one, kept until the net changes: in most ticks it does not. */
        private final int[] timesToHere;
        private boolean isReckoned;
        /** A bit for each station that can be come to from this one. */
        private int reach;
        private int switchedTo;
        private int received;

        private Station(int number, int room, int handling) {
            this.number = number;
            this.room = room;
            this.handling = handling;
            ways = new ArrayList<>();
            line = new ArrayList<>();
            timesToHere = new int[STATIONS_AT_MOST];
            isReckoned = false;
            reach = 0;
            switchedTo = FREE;
            received = 0;
        }

        private boolean hasRoom() {
            return line.size() < room;
        }

        private boolean hasSwitchFor(int way) {
            return way >= FREE && way < ways.size();
        }

        private void lineUp(Carrier carrier) {
            int place = line.size();
            while (place > 0 && line.get(place - 1).rank < carrier.rank) {
                place--;
            }
            line.add(place, carrier);
        }

        private int timeFrom(Station start) {
            int place = start.number;
            return place >= 0 && place < timesToHere.length ? timesToHere[place] : NEVER;
        }

        private void keepTimeFrom(Station start, int time) {
            int place = start.number;
            if (place >= 0 && place < timesToHere.length) {
                timesToHere[place] = time;
            }
        }
    }

    private static final class Tube {
        private final int number;
        private final Station from;
        private final Station to;
        private final int length;
        private final int bore;
        /** Who is in it, in the order in which they entered. */
        private final ArrayList<Carrier> inside;
        private int speed;
        private int timeThrough;
        private boolean isOpen;
        private int entered;
        private int lastEntryAt;

        private Tube(int number, Station from, Station to, int length, int speed, int bore) {
            this.number = number;
            this.from = from;
            this.to = to;
            this.length = length;
            this.bore = bore;
            this.speed = speed;
            timeThrough = dividedUp(length, speed);
            inside = new ArrayList<>();
            isOpen = true;
            entered = 0;
            lastEntryAt = 0;
        }

        private void setSpeed(int changed) {
            speed = changed;
            timeThrough = dividedUp(length, changed);
        }

        private static int dividedUp(int length, int speed) {
            // No speed but 1 to 6 comes here; the test keeps the division safe by itself.
            return speed < 1 ? NEVER : (length + speed - 1) / speed;
        }

        private boolean canBeEnteredAt(int tick) {
            return isOpen && inside.size() < bore && lastEntryAt != tick;
        }

        // Behind a tick's arrivals one that is still at the end was not let out: the tube is jammed.
        private boolean isFirstAtEnd(int tick) {
            if (inside.isEmpty()) {
                return false;
            }
            Carrier first = inside.get(0);
            return tick - first.since >= first.timeInTube;
        }
    }

    private static final class Carrier {
        private final int number;
        private final Station aim;
        private final int rank;
        private final int sentAt;
        private int state;
        private int place;
        private int since;
        /** Kept from when it entered: the tube's speed may change behind it. */
        private int timeInTube;
        private int tubesEntered;

        private Carrier(int number, Station aim, int rank, int sentAt) {
            this.number = number;
            this.aim = aim;
            this.rank = rank;
            this.sentAt = sentAt;
            state = AT_STATION;
            place = 0;
            since = sentAt;
            timeInTube = 0;
            tubesEntered = 0;
        }

        private void comeTo(Station station, int tick) {
            state = AT_STATION;
            place = station.number;
            since = tick;
            station.lineUp(this);
        }

        private void enter(Tube tube, int tick) {
            state = IN_TUBE;
            place = tube.number;
            since = tick;
            timeInTube = tube.timeThrough;
            tubesEntered++;
            tube.inside.add(this);
            tube.entered++;
            tube.lastEntryAt = tick;
        }
    }

    /** One line of the timetable. */
    private static final class Entry {
        private final int first;
        private final int period;
        private final int sort;
        private final int what;
        private final int how;

        private Entry(int first, int period, int sort, int what, int how) {
            this.first = first;
            this.period = period;
            this.sort = sort;
            this.what = what;
            this.how = how;
        }

        private boolean isDueAt(int tick) {
            if (period < 1) {
                return tick == first;
            }
            return tick >= first && (tick - first) % period == 0;
        }
    }

    /** The stations and tubes, and which ways there are. */
    private static final class Net {
        private final ArrayList<Station> stations;
        private final ArrayList<Tube> tubes;

        private Net() {
            stations = new ArrayList<>();
            tubes = new ArrayList<>();
        }

        private int build(int room, int handling) {
            stations.add(new Station(stations.size(), room, handling));
            forgetTimes();
            return stations.size() - 1;
        }

        private int lay(Station from, Station to, int length, int speed, int bore) {
            Tube tube = new Tube(tubes.size(), from, to, length, speed, bore);
            tubes.add(tube);
            from.ways.add(tube);
            forgetTimes();
            return tube.number;
        }

        private boolean hasStation(int number) {
            return number >= 0 && number < stations.size();
        }

        private boolean hasTube(int number) {
            return number >= 0 && number < tubes.size();
        }

        private void set(Tube tube, int speed, boolean isOpen) {
            tube.setSpeed(speed);
            tube.isOpen = isOpen;
            forgetTimes();
        }

        private void forgetTimes() {
            for (int i = 0; i < stations.size(); i++) {
                stations.get(i).isReckoned = false;
            }
        }

        private int leastTime(Station from, Station aim) {
            reckonTimesTo(aim);
            return aim.timeFrom(from);
        }

        /** The way out that is taken for the aim, NO_WAY if there is none. */
        private int wayFor(Station from, Station aim) {
            if (from == aim) {
                return NO_WAY;
            }
            if (from.switchedTo != FREE) {
                return from.switchedTo;
            }
            reckonTimesTo(aim);
            int best = NO_WAY;
            int least = NEVER;
            for (int way = 0; way < from.ways.size(); way++) {
                Tube tube = from.ways.get(way);
                int taken = timeBy(tube, aim, aim.timeFrom(tube.to));
                if (taken < least) {
                    least = taken;
                    best = way;
                }
            }
            return best;
        }

        private void reckonTimesTo(Station aim) {
            if (aim.isReckoned) {
                return;
            }
            Arrays.fill(aim.timesToHere, NEVER);
            aim.keepTimeFrom(aim, 0);
            boolean isShorter = true;
            for (int round = 0; isShorter && round < stations.size(); round++) {
                isShorter = false;
                for (int i = 0; i < tubes.size(); i++) {
                    Tube tube = tubes.get(i);
                    int taken = timeBy(tube, aim, aim.timeFrom(tube.to));
                    if (taken < aim.timeFrom(tube.from)) {
                        aim.keepTimeFrom(tube.from, taken);
                        isShorter = true;
                    }
                }
            }
            aim.isReckoned = true;
        }

        /** The time to the aim through this tube and the rest behind it, NEVER if it is shut or there is no way on. */
        private static int timeBy(Tube tube, Station aim, int rest) {
            if (!tube.isOpen || rest == NEVER) {
                return NEVER;
            }
            int handling = tube.to == aim ? 0 : tube.to.handling;
            return tube.timeThrough + handling + rest;
        }

        // A tube that is shut makes no new way: what it parts is what is missing then. The pairs of a station with
        // itself are there in any case.
        private int pairsPartedWithout(Tube shut) {
            return pairsWithAWay(NO_TUBE) - pairsWithAWay(shut.number);
        }

        private int pairsWithAWay(int leftOut) {
            reckonReach(leftOut);
            int pairs = 0;
            for (int i = 0; i < stations.size(); i++) {
                pairs += Integer.bitCount(stations.get(i).reach);
            }
            return pairs;
        }

        private void reckonReach(int leftOut) {
            for (int i = 0; i < stations.size(); i++) {
                stations.get(i).reach = 1 << i;
            }
            for (int i = 0; i < tubes.size(); i++) {
                Tube tube = tubes.get(i);
                if (tube.isOpen && i != leftOut) {
                    tube.from.reach |= 1 << tube.to.number;
                }
            }
            for (int between = 0; between < stations.size(); between++) {
                int reachOn = stations.get(between).reach;
                for (int i = 0; i < stations.size(); i++) {
                    Station start = stations.get(i);
                    if ((start.reach & 1 << between) != 0) {
                        start.reach |= reachOn;
                    }
                }
            }
        }
    }
}
