import java.math.BigInteger;

/** The boundaries that the promises 14 to 19 name, on the side where the call is taken (RefusalsTest has the other). */
public final class ForetellingEdgesTest {
    public static void main(String[] args) {
        promise14WhenFromThisMinuteToTheLast();
        promise14WhenTheEarliestOfSeveral();
        promise14WhenTheShowIs0InAll();
        promise14WhenTheDayIsOver();
        promise14WhenInAFullHouse();
        promise15AdviseFrom1To9();
        promise15AdviseNoHoleAbove9();
        promise15AdviseTheLeastOfSeveral();
        promise15AdviseJustSoManyMinutes();
        promise15AdviseWhilePassersGo();
        promise15AdviseAsFarAsTheDayGoes();
        promise15AdviseInAFullHouse();
        promise16SeenFromNoRoomToAll();
        promise16SeenFromNowToTheLastMinute();
        promise16SeenByOneWhoIsGone();
        promise17ForeseeFrom1To720();
        promise17ForeseeAsFarAsTheDayGoes();
        promise17ForeseeInAFullHouse();
        promise18MeanOfNoneAndAllMinutes();
        promise19DigestOfANewHouseWrapsAround();
        promise19DigestOfAFullHouseWrapsAround();
        nothingIsChangedByWhatOnlyTells();
        Check.end();
    }

    /** "this one or a later one of the day, as it begins" */
    private static void promise14WhenFromThisMinuteToTheLast() {
        for (int begun : new int[] {0, 1, 59, 60, 718, 719}) {
            PinholeHouse house = roomAt30(begun);
            house.pass(42, 3, 9, 9);
            // Shown now, at the wall's end, and away from it in the next minute.
            Check.due(begun, house.when(0));
        }
        for (int lit : new int[] {1, 5, 11}) {
            PinholeHouse house = roomAt30(0);
            house.pass(30, 0, 9, 9);
            for (int hour = 0; hour < 12; hour++) {
                house.setLight(hour, hour == lit ? 50 : 0, 0);
            }
            Check.due(60 * lit, house.when(0));
            house.go(60 * lit + 59);
            Check.due(60 * lit + 59, house.when(0));
            house.go(1);
            Check.due(-1, house.when(0));
        }
        for (int begun : new int[] {707, 708, 709}) {
            PinholeHouse house = roomAt30(begun);
            house.pass(6, 1, 9, 9);
            // Twelve minutes on, this one comes to the wall's end: in the minute 719, 720 is none of the day.
            Check.due(begun + 12 <= 719 ? begun + 12 : -1, house.when(0));
        }
    }

    /** "in which its show is the greatest"; "of several the earliest" */
    private static void promise14WhenTheEarliestOfSeveral() {
        PinholeHouse house = roomAt30(0);
        house.pass(30, 0, 9, 9);
        Check.due(0, house.when(0));
        house.go(3);
        Check.due(3, house.when(0));
        house.pass(12, 1, 9, 9);
        // It is within reach, from 18 to 42, in 25 minutes: 9 to 33.
        Check.due(9, house.when(0));
        house.go(6);
        Check.due(9, house.when(0));
        house.go(24);
        Check.due(33, house.when(0));
        house.go(1);
        Check.due(34, house.when(0));
    }

    /** "-1 if it is 0 in all of them" */
    private static void promise14WhenTheShowIs0InAll() {
        PinholeHouse house = roomAt30(0);
        Check.due(-1, house.when(0));
        house.pass(43, 0, 9, 9);
        house.pass(17, -1, 9, 9);
        house.pass(30, 0, 2, 9);
        Check.due(-1, house.when(0));
        house.pass(59, -1, 9, 9);
        Check.due(17, house.when(0));
    }

    /** "or the day is over" */
    private static void promise14WhenTheDayIsOver() {
        PinholeHouse house = roomAt30(719);
        house.pass(30, 0, 9, 9);
        Check.due(719, house.when(0));
        house.go(1);
        Check.due(-1, house.when(0));
        house.setLight(11, 100, 0);
        house.setLight(0, 100, 0);
        Check.due(-1, house.when(0));
    }

    private static void promise14WhenInAFullHouse() {
        PinholeHouse house = crowdedHouse();
        for (int room = 0; room < 8; room++) {
            Check.due(0, house.when(room));
        }
        house.go(720);
        for (int room = 0; room < 8; room++) {
            Check.due(-1, house.when(room));
        }
    }

    /** "how wide its hole had best be, 1 to 9" */
    private static void promise15AdviseFrom1To9() {
        // The light, the paint, and the least hole with which a brightness of 5 is left of light * hole * hole / 10.
        int[][] cases = {
            {100, 0, 1}, {50, 0, 1}, {49, 0, 2}, {13, 0, 2}, {12, 0, 3}, {6, 0, 3}, {5, 0, 4}, {4, 0, 4}, {3, 0, 5},
            {2, 0, 5}, {2, 1, 6}, {2, 3, 7}, {1, 0, 8}, {1, 3, 9}};
        for (int[] one : cases) {
            PinholeHouse house = shallowRoom(one[0], one[1]);
            String turn = "light " + one[0] + ", paint " + one[1];
            for (int minutes : new int[] {1, 60, 200}) {
                Check.due(turn, one[2], house.advise(0, minutes));
            }
            house.bore(0, one[2]);
            Check.due(turn, 1, house.go(1));
            Check.due(turn, one[2], house.room(0, 2));
        }
    }

    /** The same: a hole of 10 would let in enough, a hole of 9 does not, and so none brings in a penny. */
    private static void promise15AdviseNoHoleAbove9() {
        PinholeHouse house = shallowRoom(1, 4);
        Check.due(1, house.advise(0, 1));
        Check.due(1, house.advise(0, 200));
        house.bore(0, 9);
        Check.due(1, house.advise(0, 200));
        Check.due(0, house.go(1));
    }

    /** "of several the least" */
    private static void promise15AdviseTheLeastOfSeveral() {
        for (int hole = 1; hole <= 9; hole++) {
            PinholeHouse dark = shallowRoom(0, 0);
            dark.bore(0, hole);
            Check.due(1, dark.advise(0, 200));
            PinholeHouse light = shallowRoom(100, 0);
            light.bore(0, hole);
            Check.due(1, light.advise(0, 200));
            PinholeHouse dim = shallowRoom(13, 0);
            dim.bore(0, hole);
            Check.due(2, dim.advise(0, 200));
        }
        PinholeHouse seatless = new PinholeHouse();
        seatless.addRoom(30, 1, 0);
        seatless.setLight(0, 13, 0);
        seatless.pass(30, 0, 9, 1);
        Check.due(1, seatless.advise(0, 200));
    }

    /** "so that the most pence are paid there in so many minutes" */
    private static void promise15AdviseJustSoManyMinutes() {
        PinholeHouse house = new PinholeHouse();
        house.addRoom(30, 3, 20);
        house.setLight(0, 0, 0);
        house.pass(30, 0, 3, 1);
        house.go(50);
        house.seat(0, 20);
        // Ten dark minutes, after which ten of the people are left to pay.
        Check.due(1, house.advise(0, 10));
        Check.due(3, house.advise(0, 11));
        Check.due(0, house.foresee(10, 0));
        Check.due(10, house.foresee(11, 0));
        PinholeHouse patient = new PinholeHouse();
        patient.addRoom(30, 3, 20);
        patient.pass(30, 0, 3, 1);
        patient.pass(30, 0, 3, 1);
        for (int hour = 0; hour < 4; hour++) {
            patient.setLight(hour, 0, 0);
        }
        patient.go(42);
        // The first comes in the minute 240, and pays in 241, the 200th of them.
        Check.due(1, patient.advise(0, 199));
        Check.due(3, patient.advise(0, 200));
        Check.due(0, patient.foresee(199, 0));
        Check.due(2, patient.foresee(200, 0));
    }

    /** The same, where a narrow hole pays at first and a wide one later. */
    private static void promise15AdviseWhilePassersGo() {
        PinholeHouse house = new PinholeHouse();
        house.addRoom(30, 3, 20);
        house.seat(0, 20);
        // Bright and short, seen well with a hole of 1 or 2, in the first 5 minutes: up to the step 42.
        house.pass(37, 1, 2, 9);
        // Faint and tall, seen well with a hole of 3 or more, from the 10th to the 34th minute: the steps 18 to 42.
        house.pass(8, 1, 9, 1);
        // With a hole of 1, 20 people pay in 5 minutes; with one of 3, 11 are left when there is something to see.
        for (int minutes : new int[] {1, 9, 10, 18}) {
            Check.due(minutes + " minutes", 1, house.advise(0, minutes));
        }
        for (int minutes : new int[] {19, 34, 200}) {
            Check.due(minutes + " minutes", 3, house.advise(0, minutes));
        }
        Check.due(0, house.foresee(9, 0));
        Check.due(11, house.foresee(10, 0));
        Check.due(275, house.foresee(34, 0));
        Check.due(275, house.foresee(720, 0));
        house.bore(0, 2);
        Check.due(100, house.foresee(720, 0));
    }

    /** The same, at the day's end: in the minute 719 one minute is left, and behind it none. */
    private static void promise15AdviseAsFarAsTheDayGoes() {
        for (int begun : new int[] {717, 718, 719, 720}) {
            PinholeHouse house = new PinholeHouse();
            house.addRoom(30, 1, 5);
            house.setLight(11, 13, 0);
            house.go(begun);
            house.pass(30, 0, 9, 1);
            house.pass(30, 0, 9, 1);
            // One comes in the first minute, and pays in the second.
            Check.due(1, house.advise(0, 1));
            Check.due("begun " + begun, begun <= 718 ? 2 : 1, house.advise(0, 2));
            Check.due("begun " + begun, begun <= 718 ? 2 : 1, house.advise(0, 200));
            house.seat(0, 1);
            Check.due("begun " + begun, begun <= 719 ? 2 : 1, house.advise(0, 1));
            Check.due("begun " + begun, begun <= 719 ? 2 : 1, house.advise(0, 200));
        }
    }

    private static void promise15AdviseInAFullHouse() {
        PinholeHouse house = crowdedHouse();
        for (int room = 0; room < 8; room++) {
            house.bore(room, 1 + room);
        }
        for (int room = 0; room < 8; room++) {
            // 450 * 9 / 810 is 5, and with a hole of 4 the blur is 12.
            Check.due(3, house.advise(room, 1));
            Check.due(3, house.advise(room, 200));
            Check.due(1 + room, house.room(room, 2));
        }
        house.go(720);
        for (int room = 0; room < 8; room++) {
            Check.due(1, house.advise(room, 200));
        }
    }

    /** "as a set: the bit with the number of each one is set" */
    private static void promise16SeenFromNoRoomToAll() {
        PinholeHouse house = new PinholeHouse();
        for (int i = 0; i < 10; i++) {
            house.pass(28, 0, 1, 1);
        }
        house.setLight(0, 0, 0);
        for (int room = 0; room < 8; room++) {
            Check.due((1 << room) - 1, house.seen(0));
            Check.due((1 << room) - 1, house.seen(9));
            house.addRoom(8 * room, 9, 0);
        }
        Check.due(255, house.seen(0));
        Check.due(255, house.seen(9));
        PinholeHouse apart = new PinholeHouse();
        apart.pass(30, 0, 9, 9);
        apart.addRoom(0, 1, 0);
        apart.addRoom(25, 1, 0);
        apart.addRoom(35, 1, 0);
        Check.due(0, apart.seen(0));
        apart.addRoom(26, 1, 0);
        Check.due(8, apart.seen(0));
        apart.addRoom(34, 1, 0);
        Check.due(24, apart.seen(0));
    }

    /** "now or in a later minute of the day, as it begins" */
    private static void promise16SeenFromNowToTheLastMinute() {
        for (int begun : new int[] {0, 1, 717, 718, 719, 720}) {
            PinholeHouse house = new PinholeHouse();
            house.addRoom(30, 1, 0);
            if (begun > 0) {
                house.go(begun);
            }
            house.pass(34, 3, 1, 1);
            house.pass(35, 3, 1, 1);
            house.pass(25, 1, 1, 1);
            house.pass(24, 1, 1, 1);
            house.pass(28, -3, 1, 1);
            String turn = "begun " + begun;
            Check.due(turn, 1, house.seen(0));
            Check.due(turn, 0, house.seen(1));
            Check.due(turn, begun + 1 <= 719 ? 1 : 0, house.seen(2));
            Check.due(turn, begun + 2 <= 719 ? 1 : 0, house.seen(3));
            Check.due(turn, 1, house.seen(4));
            if (begun < 720) {
                house.go(1);
                // What was shown before is not told, what is shown now is, even if the day is over now.
                Check.due(turn, 0, house.seen(0));
                Check.due(turn, 1, house.seen(2));
                Check.due(turn, 0, house.seen(4));
            }
        }
        PinholeHouse whole = new PinholeHouse();
        whole.pass(0, 0, 1, 1);
        whole.addRoom(4, 1, 0);
        for (int minutes : new int[] {1, 718, 1, 1}) {
            whole.go(minutes);
            Check.due(1, whole.seen(0));
        }
    }

    private static void promise16SeenByOneWhoIsGone() {
        PinholeHouse house = new PinholeHouse();
        house.addRoom(0, 9, 0);
        house.addRoom(59, 9, 0);
        house.pass(1, -1, 9, 9);
        house.pass(58, 1, 9, 9);
        for (int minute = 0; minute < 2; minute++) {
            Check.due(1, house.seen(0));
            Check.due(2, house.seen(1));
            house.go(1);
        }
        Check.due(0, house.seen(0));
        Check.due(0, house.seen(1));
        house.go(720);
        Check.due(0, house.seen(0));
    }

    /** "how many, 1 to 720"; "2 passers-by who are not gone then" */
    private static void promise17ForeseeFrom1To720() {
        PinholeHouse house = roomAt30(0);
        house.seat(0, 1);
        house.pass(30, 0, 9, 9);
        house.pass(50, 3, 9, 9);
        for (int minutes : new int[] {1, 2, 3, 4, 5, 59, 60, 61, 359, 718, 719, 720}) {
            Check.due(minutes + " minutes", minutes, house.foresee(minutes, 0));
            Check.due(minutes + " minutes", 1, house.foresee(minutes, 1));
            // At the steps 53, 56, 59, and gone in the fourth minute.
            Check.due(minutes + " minutes", minutes < 4 ? 2 : 1, house.foresee(minutes, 2));
        }
        PinholeHouse dark = roomAt30(0);
        dark.setLight(0, 0, 0);
        dark.seat(0, 5);
        for (int minutes : new int[] {1, 4, 5, 6, 720}) {
            Check.due(0, dark.foresee(minutes, 0));
            Check.due(minutes + " minutes", Math.max(5 - minutes, 0), dark.foresee(minutes, 1));
            Check.due(0, dark.foresee(minutes, 2));
        }
    }

    /** The same, at the day's end. */
    private static void promise17ForeseeAsFarAsTheDayGoes() {
        for (int begun : new int[] {1, 360, 718, 719, 720}) {
            PinholeHouse house = roomAt30(begun);
            house.seat(0, 1);
            house.pass(30, 0, 9, 9);
            house.pass(59, 3, 9, 9);
            for (int minutes : new int[] {1, 2, 360, 719, 720}) {
                String turn = minutes + " from " + begun;
                Check.due(turn, Math.min(minutes, 720 - begun), house.foresee(minutes, 0));
                Check.due(turn, 1, house.foresee(minutes, 1));
                Check.due(turn, begun < 720 ? 1 : 2, house.foresee(minutes, 2));
            }
        }
        PinholeHouse night = roomAt30(720);
        night.seat(0, 5);
        Check.due(5, night.foresee(720, 1));
        Check.due(0, night.foresee(720, 2));
    }

    private static void promise17ForeseeInAFullHouse() {
        PinholeHouse house = crowdedHouse();
        for (int minutes : new int[] {1, 719, 720}) {
            Check.due(320 * minutes, house.foresee(minutes, 0));
            Check.due(160, house.foresee(minutes, 1));
            Check.due(10, house.foresee(minutes, 2));
        }
        for (int minutes : new int[] {1, 5, 40, 716, 717, 720}) {
            PinholeHouse foretold = Houses.FULL.make();
            PinholeHouse comeAbout = Houses.FULL.make();
            Check.due(comeAbout.go(minutes), foretold.foresee(minutes, 0));
            Check.due(comeAbout.count(5), foretold.foresee(minutes, 1));
            Check.due(10 - comeAbout.count(3), foretold.foresee(minutes, 2));
        }
    }

    /** "divided by the minutes that went by; 0 if none did" */
    private static void promise18MeanOfNoneAndAllMinutes() {
        PinholeHouse house = roomAt30(0);
        house.pass(30, 0, 9, 9);
        house.seat(0, 5);
        Check.due(0.0, house.mean());
        house.go(1);
        Check.due(5.0, house.mean());
        house.setLight(0, 0, 0);
        house.go(2);
        Check.due(5 / 3.0, house.mean());
        house.go(56);
        Check.due(5 / 59.0, house.mean());
        house.go(660);
        Check.due(5 / 719.0, house.mean());
        house.go(1);
        Check.due(5 / 720.0, house.mean());
        // Behind the day's end no minute goes by that would count.
        house.go(720);
        Check.due(5 / 720.0, house.mean());
        PinholeHouse crowd = crowdedHouse();
        Check.due(0.0, crowd.mean());
        crowd.go(720);
        Check.due(320.0, crowd.mean());
        PinholeHouse penniless = new PinholeHouse();
        penniless.go(1);
        Check.due(0.0, penniless.mean());
    }

    /** "which wraps around as a 64-bit integer" */
    private static void promise19DigestOfANewHouseWrapsAround() {
        Digest digest = new Digest();
        digest.add(0, 50, 0, 0, 0, 0, 0, 0, 0);
        digest.addTimes(12, 500);
        Check.due(1, digest.isWrapped() ? 1 : 0);
        Check.due(digest.wrapped(), new PinholeHouse().digest());
    }

    /** The same with 10 passers-by and 8 rooms, at the day's begin and at its end. */
    private static void promise19DigestOfAFullHouseWrapsAround() {
        PinholeHouse house = crowdedHouse();
        house.setLight(0, 100, 0);
        house.setLight(11, 0, 9);
        Digest begin = new Digest();
        begin.add(0, 100, 10, 0, 8, 160, 80, 0, 0, 1000);
        begin.addTimes(10, 500);
        begin.add(9);
        begin.addTimes(10, 28, 0, 9, 9, 8);
        for (int room = 0; room < 8; room++) {
            begin.add(8 * room, 9, 3, 0, 20, 20, 10, 0);
        }
        Check.due(begin.wrapped(), house.digest());
        house.go(720);
        // In the 60 dark minutes of the last hour all the people leave.
        Digest end = new Digest();
        end.add(720, 0, 10, 0, 8, 0, 0, 8 * 660 * 40, 1, 1000);
        end.addTimes(10, 500);
        end.add(9);
        end.addTimes(10, 28, 0, 9, 9, 0);
        for (int room = 0; room < 8; room++) {
            end.add(8 * room, 9, 3, 0, 20, 0, 0, 660 * 40);
        }
        Check.due(end.wrapped(), house.digest());
    }

    /** "(nothing is changed)", and no call that only tells changes what another one tells. */
    private static void nothingIsChangedByWhatOnlyTells() {
        for (Houses kind : Houses.values()) {
            int passers = kind.make().count(2);
            int rooms = kind.make().count(4);
            PinholeHouse house = kind.make();
            long first = tellAll(house, passers, rooms);
            long again = tellAll(house, passers, rooms);
            Check.due(kind + " told again", first, again);
            PinholeHouse untouched = kind.make();
            Check.due(kind + " and its digest", untouched.digest(), house.digest());
            Check.due(kind + " and its pence", untouched.go(9), house.go(9));
            Check.due(kind + " and its later digest", untouched.digest(), house.digest());
            Check.due(kind + " and its last pence", untouched.go(720), house.go(720));
            Check.due(kind + " and its last digest", untouched.digest(), house.digest());
        }
    }

    /** What the calls that only tell answer, all in one number. */
    private static long tellAll(PinholeHouse house, int passers, int rooms) {
        Digest told = new Digest();
        for (int room = 0; room < rooms; room++) {
            told.add(house.when(room), house.advise(room, 200), house.wall(room, 0), house.advise(room, 1));
            told.add(house.room(room, room), house.when(room));
        }
        for (int passer = 0; passer < passers; passer++) {
            told.add(house.seen(passer), house.passer(passer, passer % 5), house.seen(passer));
            for (int room = 0; room < rooms; room++) {
                told.add(house.bright(room, passer));
            }
        }
        for (int what = 0; what < 3; what++) {
            told.add(house.foresee(720, what), house.count(what), house.foresee(1, what));
        }
        told.add(Double.doubleToLongBits(house.mean()), house.digest());
        return told.wrapped();
    }

    /** The checksum of promise 19, added up in numbers without an end and cut to 64 bits only then. */
    private static final class Digest {
        private BigInteger d = BigInteger.valueOf(853);

        void add(long... numbers) {
            for (long x : numbers) {
                d = d.multiply(BigInteger.valueOf(31)).add(BigInteger.valueOf(x));
            }
        }

        void addTimes(int times, long... numbers) {
            for (int i = 0; i < times; i++) {
                add(numbers);
            }
        }

        boolean isWrapped() {
            return d.bitLength() > 63;
        }

        long wrapped() {
            return d.longValue();
        }
    }

    private static PinholeHouse roomAt30(int begun) {
        PinholeHouse house = new PinholeHouse();
        house.addRoom(30, 3, 5);
        if (begun > 0) {
            house.go(begun);
        }
        return house;
    }

    /** A room with one of the people, who pays a penny a minute for one passer-by, if the hole is wide enough. */
    private static PinholeHouse shallowRoom(int light, int paint) {
        PinholeHouse house = new PinholeHouse();
        for (int hour = 0; hour < 12; hour++) {
            house.setLight(hour, light, 0);
        }
        house.addRoom(30, 1, 1);
        house.paint(0, paint);
        house.seat(0, 1);
        house.pass(30, 0, 3, 1);
        return house;
    }

    /** 8 rooms with 20 people in each, and 10 passers-by who stay where all of them are seen well from each. */
    private static PinholeHouse crowdedHouse() {
        PinholeHouse house = new PinholeHouse();
        for (int room = 0; room < 8; room++) {
            house.addRoom(8 * room, 9, 20);
            house.seat(room, 20);
        }
        for (int i = 0; i < 10; i++) {
            house.pass(28, 0, 9, 9);
        }
        return house;
    }
}
