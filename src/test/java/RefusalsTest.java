import java.util.Arrays;

/**
 * Promises 2 to 17, for every method in a new, a furnished and a full house, and in one whose day is over: each
 * argument at the last value that is taken and the first that is refused on each side, each crossed with each; which
 * exception comes, the one that the document names first where several apply; and that a refused call changes nothing.
 */
public final class RefusalsTest {
    private static final Class<?> NONE = null;

    interface CallOn {
        void make(PinholeHouse house);
    }

    private final Houses kind;
    private final int passers;
    private final int rooms;
    private final long[] answers;

    private RefusalsTest(Houses kind) {
        this.kind = kind;
        PinholeHouse house = kind.make();
        passers = house.count(2);
        rooms = house.count(4);
        answers = answersOf(house);
    }

    public static void main(String[] args) {
        for (Houses kind : Houses.values()) {
            new RefusalsTest(kind).compareAll();
        }
        Check.end();
    }

    private void compareAll() {
        promise2Pass();
        promise3SetLight();
        promise4AddRoom();
        promise5Bore();
        promise6Paint();
        promise7Seat();
        promise8Passer();
        promise9Room();
        promise10Wall();
        promise11Bright();
        promise12Count();
        promise13Go();
        promise14When();
        promise15Advise();
        promise16Seen();
        promise17Foresee();
    }

    private void promise2Pass() {
        for (int step : around(0, 59)) {
            for (int pace : around(-3, 3)) {
                for (int tall : around(1, 9)) {
                    for (int bright : around(1, 9)) {
                        boolean good = in(step, 0, 59) && in(pace, -3, 3) && in(tall, 1, 9) && in(bright, 1, 9);
                        Class<?> want = !good ? Check.ARGUMENT : passers >= 10 ? Check.STATE : NONE;
                        due("pass", want, h -> h.pass(step, pace, tall, bright), step, pace, tall, bright);
                    }
                }
            }
        }
    }

    private void promise3SetLight() {
        for (int hour : around(0, 11)) {
            for (int light : around(0, 100)) {
                for (int clouds : around(0, 9)) {
                    boolean good = in(light, 0, 100) && in(clouds, 0, 9);
                    Class<?> want = !in(hour, 0, 11) ? Check.INDEX : good ? NONE : Check.ARGUMENT;
                    due("setLight", want, h -> h.setLight(hour, light, clouds), hour, light, clouds);
                }
            }
        }
    }

    private void promise4AddRoom() {
        for (int depth : around(1, 9)) {
            for (int seats : around(0, 20)) {
                boolean good = in(depth, 1, 9) && in(seats, 0, 20);
                for (int step : around(0, 59)) {
                    addRoom(good && in(step, 0, 59), step, depth, seats);
                }
                for (int room = 0; room < rooms; room++) {
                    addRoom(good, kind.make().room(room, 0), depth, seats);
                }
            }
        }
        for (int step = 0; step <= 59; step++) {
            addRoom(true, step, 1, 0);
        }
    }

    private void addRoom(boolean good, int step, int depth, int seats) {
        boolean full = rooms >= 8 || hasHoleAt(step);
        Class<?> want = !good ? Check.ARGUMENT : full ? Check.STATE : NONE;
        due("addRoom", want, h -> h.addRoom(step, depth, seats), step, depth, seats);
    }

    private boolean hasHoleAt(int step) {
        PinholeHouse house = kind.make();
        for (int room = 0; room < rooms; room++) {
            if (house.room(room, 0) == step) {
                return true;
            }
        }
        return false;
    }

    private void promise5Bore() {
        for (int room : around(0, rooms - 1)) {
            for (int hole : around(1, 9)) {
                due("bore", wantOfRoom(room, in(hole, 1, 9)), h -> h.bore(room, hole), room, hole);
            }
        }
    }

    private void promise6Paint() {
        for (int room : around(0, rooms - 1)) {
            for (int paint : around(0, 9)) {
                due("paint", wantOfRoom(room, in(paint, 0, 9)), h -> h.paint(room, paint), room, paint);
            }
        }
    }

    private void promise7Seat() {
        for (int room : around(0, rooms - 1)) {
            for (int people : around(1, 20)) {
                seat(room, people);
            }
        }
        for (int room = 0; room < rooms; room++) {
            for (int people = 1; people <= 20; people++) {
                seat(room, people);
            }
        }
    }

    private void seat(int room, int people) {
        Class<?> want = wantOfRoom(room, in(people, 1, 20));
        if (want == NONE) {
            PinholeHouse house = kind.make();
            want = people > house.room(room, 4) - house.room(room, 5) ? Check.STATE : NONE;
        }
        due("seat", want, h -> h.seat(room, people), room, people);
    }

    private void promise8Passer() {
        for (int passer : around(0, passers - 1)) {
            for (int what : around(0, 4)) {
                boolean good = in(passer, 0, passers - 1) && in(what, 0, 4);
                due("passer", good ? NONE : Check.INDEX, h -> h.passer(passer, what), passer, what);
            }
        }
    }

    private void promise9Room() {
        for (int room : around(0, rooms - 1)) {
            for (int what : around(0, 7)) {
                boolean good = in(room, 0, rooms - 1) && in(what, 0, 7);
                due("room", good ? NONE : Check.INDEX, h -> h.room(room, what), room, what);
            }
        }
    }

    private void promise10Wall() {
        for (int room : around(0, rooms - 1)) {
            int end = in(room, 0, rooms - 1) ? 4 * kind.make().room(room, 1) : 0;
            for (int place : around(-end, end)) {
                boolean good = in(room, 0, rooms - 1) && in(place, -end, end);
                due("wall", good ? NONE : Check.INDEX, h -> h.wall(room, place), room, place);
            }
        }
    }

    private void promise11Bright() {
        for (int room : around(0, rooms - 1)) {
            for (int passer : around(0, passers - 1)) {
                boolean good = in(room, 0, rooms - 1) && in(passer, 0, passers - 1);
                due("bright", good ? NONE : Check.INDEX, h -> h.bright(room, passer), room, passer);
            }
        }
    }

    private void promise12Count() {
        for (int what : around(0, 8)) {
            due("count", in(what, 0, 8) ? NONE : Check.INDEX, h -> h.count(what), what);
        }
    }

    private void promise13Go() {
        for (int minutes : around(1, 720)) {
            due("go", in(minutes, 1, 720) ? NONE : Check.ARGUMENT, h -> h.go(minutes), minutes);
        }
    }

    private void promise14When() {
        for (int room : around(0, rooms - 1)) {
            due("when", wantOfRoom(room, true), h -> h.when(room), room);
        }
    }

    private void promise15Advise() {
        for (int room : around(0, rooms - 1)) {
            for (int minutes : around(1, 200)) {
                due("advise", wantOfRoom(room, in(minutes, 1, 200)), h -> h.advise(room, minutes), room, minutes);
            }
        }
    }

    private void promise16Seen() {
        for (int passer : around(0, passers - 1)) {
            due("seen", in(passer, 0, passers - 1) ? NONE : Check.INDEX, h -> h.seen(passer), passer);
        }
    }

    private void promise17Foresee() {
        for (int minutes : around(1, 720)) {
            for (int what : around(0, 2)) {
                Class<?> want = !in(minutes, 1, 720) ? Check.ARGUMENT : in(what, 0, 2) ? NONE : Check.INDEX;
                due("foresee", want, h -> h.foresee(minutes, what), minutes, what);
            }
        }
    }

    private Class<?> wantOfRoom(int room, boolean restIsGood) {
        if (!in(room, 0, rooms - 1)) {
            return Check.INDEX;
        }
        return restIsGood ? NONE : Check.ARGUMENT;
    }

    private static int[] around(int low, int high) {
        return new int[] {Integer.MIN_VALUE, low - 1, low, high, high + 1, Integer.MAX_VALUE};
    }

    private static boolean in(int number, int low, int high) {
        return number >= low && number <= high;
    }

    private void due(String name, Class<?> want, CallOn call, int... arguments) {
        PinholeHouse house = kind.make();
        Class<?> got = Check.thrownBy(() -> call.make(house));
        String told = kind + ": " + name + Arrays.toString(arguments);
        if (got != want) {
            Check.wrong(told + " threw " + got + ", due is " + want);
        }
        if (want != NONE && !Arrays.equals(answers, answersOf(house))) {
            Check.wrong(told + " changed the house");
        }
    }

    /** What a house tells, and what comes about in it: the same of any two between which there is no difference. */
    private static long[] answersOf(PinholeHouse house) {
        return new long[] {
            house.digest(), Double.doubleToLongBits(house.mean()), house.foresee(60, 0), house.foresee(60, 1),
            house.foresee(60, 2), house.go(1), house.digest(), house.go(9), house.digest()};
    }
}
