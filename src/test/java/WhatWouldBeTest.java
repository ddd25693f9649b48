/** Promises 14 to 19: what would be. */
public final class WhatWouldBeTest {
    public static void main(String[] args) {
        promise14WhenIsTheEarliestOfTheGreatest();
        promise14WhenFollowsTheLight();
        promise14WhenAtTheDaysEnd();
        promise14WhenRefuses();
        promise15Advise();
        promise15AdviseTheWidest();
        promise15AdviseWithoutPence();
        promise15AdviseAtTheDaysEnd();
        promise15AdviseRefuses();
        promise16Seen();
        promise16SeenAtTheDaysEnd();
        promise16SeenRefuses();
        promise17Foresee();
        promise17ForeseeAtTheDaysEnd();
        promise17ForeseeRefuses();
        promise18Mean();
        promise19Digest();
        Check.end();
    }

    private static void promise14WhenIsTheEarliestOfTheGreatest() {
        PinholeHouse house = new PinholeHouse();
        house.addRoom(30, 2, 5);
        Check.due(-1, house.when(0));
        house.pass(10, 1, 9, 9);
        Check.due(12, house.when(0));
        house.pass(59, -1, 9, 9);
        // They come into reach at the minutes 12 and 21, and the first leaves it at 29.
        Check.due(21, house.when(0));
        house.go(20);
        Check.due(21, house.when(0));
        house.go(1);
        Check.due(21, house.when(0));
        house.go(1);
        Check.due(22, house.when(0));
        house.go(7);
        Check.due(29, house.when(0));
        house.go(9);
        Check.due(-1, house.when(0));
        Check.due(38, house.count(0));
    }

    private static void promise14WhenFollowsTheLight() {
        PinholeHouse house = new PinholeHouse();
        house.addRoom(30, 3, 5);
        house.addRoom(0, 1, 5);
        house.pass(30, 0, 9, 1);
        house.pass(30, 0, 9, 9);
        house.setLight(0, 0, 0);
        house.setLight(1, 40, 0);
        house.setLight(2, 60, 9);
        house.setLight(3, 51, 0);
        Check.due(180, house.when(0));
        Check.due(-1, house.when(1));
        house.setLight(0, 50, 0);
        Check.due(0, house.when(0));
    }

    private static void promise14WhenAtTheDaysEnd() {
        PinholeHouse house = new PinholeHouse();
        house.addRoom(30, 2, 5);
        house.go(717);
        house.pass(20, 1, 9, 9);
        Check.due(719, house.when(0));
        house.pass(39, 0, 9, 9);
        house.addRoom(31, 2, 5);
        Check.due(717, house.when(1));
        PinholeHouse late = new PinholeHouse();
        late.addRoom(30, 2, 5);
        late.go(718);
        late.pass(20, 1, 9, 9);
        // It would be within reach only when the day is over.
        Check.due(-1, late.when(0));
        late.pass(30, 0, 9, 9);
        Check.due(718, late.when(0));
        late.go(1);
        Check.due(719, late.when(0));
        late.go(1);
        Check.due(-1, late.when(0));
    }

    private static void promise14WhenRefuses() {
        PinholeHouse house = oneRoomOnePasser();
        for (int wrong : new int[] {-1, 1, Integer.MIN_VALUE, Integer.MAX_VALUE}) {
            Check.thrown(Check.INDEX, house, () -> house.when(wrong));
        }
        unchanged(house, () -> house.when(0));
    }

    private static void promise15Advise() {
        PinholeHouse house = new PinholeHouse();
        house.addRoom(30, 3, 5);
        house.pass(30, 0, 3, 1);
        house.seat(0, 2);
        // A brightness of 5 needs a hole of 3, and the blur of a hole of 4 is more than the tallness.
        Check.due(3, house.advise(0, 1));
        Check.due(3, house.advise(0, 200));
        house.bore(0, 9);
        Check.due(3, house.advise(0, 200));
        Check.due(9, house.room(0, 2));
        house.setLight(0, 100, 0);
        house.paint(0, 4);
        // 100 * 4 / 90 cut to 4 fails with a hole of 2; 100 * 9 / 90 is 10, and 6 of it are left.
        Check.due(3, house.advise(0, 10));
        house.paint(0, 0);
        house.pass(42, 0, 8, 9);
        Check.due(3, house.advise(0, 10));
        house.pass(18, 0, 8, 9);
        // Two are seen well through a hole of 1 already, and for three nobody pays more.
        Check.due(1, house.advise(0, 10));
        house.setLight(0, 49, 0);
        Check.due(2, house.advise(0, 10));
        // The pence paid before do not count.
        house.go(3);
        Check.due(2, house.advise(0, 10));
    }

    private static void promise15AdviseTheWidest() {
        PinholeHouse house = new PinholeHouse();
        house.addRoom(30, 1, 5);
        house.setLight(0, 1, 0);
        house.paint(0, 3);
        house.pass(30, 0, 3, 1);
        house.seat(0, 1);
        // Of 81 / 10 the paint leaves 5, of 64 / 10 only 4.
        Check.due(9, house.advise(0, 1));
    }

    private static void promise15AdviseWithoutPence() {
        PinholeHouse house = new PinholeHouse();
        house.addRoom(30, 3, 5);
        Check.due(1, house.advise(0, 200));
        house.pass(30, 0, 3, 1);
        Check.due(1, house.advise(0, 200));
        house.pass(30, 0, 3, 1);
        // A show of 2 brings people, who pay from the second minute on.
        Check.due(1, house.advise(0, 1));
        Check.due(3, house.advise(0, 2));
    }

    private static void promise15AdviseAtTheDaysEnd() {
        PinholeHouse house = new PinholeHouse();
        house.addRoom(30, 3, 5);
        house.pass(30, 0, 3, 1);
        house.seat(0, 2);
        house.go(719);
        house.seat(0, 3);
        Check.due(3, house.advise(0, 200));
        house.pass(17, 1, 9, 9);
        Check.due(3, house.advise(0, 200));
        house.go(1);
        Check.due(1, house.advise(0, 200));
        Check.due(1, house.advise(0, 1));
    }

    private static void promise15AdviseRefuses() {
        PinholeHouse house = oneRoomOnePasser();
        for (int wrong : new int[] {-1, 1, Integer.MIN_VALUE, Integer.MAX_VALUE}) {
            Check.thrown(Check.INDEX, house, () -> house.advise(wrong, 1));
            Check.thrown(Check.INDEX, house, () -> house.advise(wrong, 0));
        }
        for (int wrong : new int[] {0, -1, 201, Integer.MIN_VALUE, Integer.MAX_VALUE}) {
            Check.thrown(Check.ARGUMENT, house, () -> house.advise(0, wrong));
        }
        unchanged(house, () -> house.advise(0, 200));
    }

    private static void promise16Seen() {
        PinholeHouse house = new PinholeHouse();
        int[] steps = {0, 8, 16, 24, 32, 40, 48, 56};
        for (int step : steps) {
            house.addRoom(step, 1, 0);
        }
        house.setLight(0, 0, 0);
        house.pass(20, 1, 1, 1);
        house.pass(20, -1, 1, 1);
        house.pass(3, 3, 1, 1);
        house.pass(10, 0, 1, 1);
        house.pass(59, 3, 1, 1);
        Check.due(0b11111100, house.seen(0));
        Check.due(0b00001111, house.seen(1));
        Check.due(0b11111111, house.seen(2));
        Check.due(0b00000010, house.seen(3));
        Check.due(0b10000000, house.seen(4));
        house.go(1);
        Check.due(0b11111000, house.seen(0));
        Check.due(0b00000111, house.seen(1));
        Check.due(0, house.seen(4));
        house.go(39);
        Check.due(0, house.seen(0));
        Check.due(0b00000010, house.seen(3));
    }

    private static void promise16SeenAtTheDaysEnd() {
        PinholeHouse house = new PinholeHouse();
        house.addRoom(10, 1, 0);
        house.addRoom(19, 1, 0);
        house.go(718);
        house.pass(13, 1, 1, 1);
        Check.due(1, house.seen(0));
        house.pass(14, 1, 1, 1);
        Check.due(3, house.seen(1));
        house.go(1);
        Check.due(1, house.seen(0));
        Check.due(2, house.seen(1));
        house.go(1);
        // The day is over, but what is shown now counts.
        Check.due(2, house.seen(0));
        house.pass(12, 3, 1, 1);
        Check.due(1, house.seen(2));
    }

    private static void promise16SeenRefuses() {
        PinholeHouse house = oneRoomOnePasser();
        for (int wrong : new int[] {-1, 1, Integer.MIN_VALUE, Integer.MAX_VALUE}) {
            Check.thrown(Check.INDEX, house, () -> house.seen(wrong));
        }
        unchanged(house, () -> house.seen(0));
    }

    private static void promise17Foresee() {
        PinholeHouse house = new PinholeHouse();
        house.addRoom(30, 3, 5);
        house.addRoom(50, 3, 5);
        house.pass(30, 0, 9, 9);
        house.pass(40, 1, 9, 9);
        house.pass(0, -1, 9, 9);
        house.seat(0, 2);
        house.seat(1, 1);
        // The second is in reach of room 0 in the minutes 0 and 1, of room 1 up to its end.
        expectForeseen(house, 1, 5, 4, 2);
        expectForeseen(house, 2, 12, 5, 2);
        expectForeseen(house, 3, 17, 5, 2);
        expectForeseen(house, 19, 97, 5, 2);
        expectForeseen(house, 20, 101, 4, 1);
        expectForeseen(house, 720, 2901, 4, 1);
        house.go(2);
        expectForeseen(house, 1, 5, 5, 2);
    }

    private static void expectForeseen(PinholeHouse house, int minutes, int pence, int people, int passers) {
        Check.due(pence, house.foresee(minutes, 0));
        Check.due(people, house.foresee(minutes, 1));
        Check.due(passers, house.foresee(minutes, 2));
    }

    private static void promise17ForeseeAtTheDaysEnd() {
        PinholeHouse house = oneRoomOnePasser();
        house.go(718);
        Check.due(2, house.foresee(2, 0));
        Check.due(2, house.foresee(720, 0));
        house.go(2);
        house.pass(0, -1, 1, 1);
        expectForeseen(house, 720, 0, 1, 2);
    }

    private static void promise17ForeseeRefuses() {
        PinholeHouse house = oneRoomOnePasser();
        for (int wrong : new int[] {0, -1, 721, Integer.MIN_VALUE, Integer.MAX_VALUE}) {
            Check.thrown(Check.ARGUMENT, house, () -> house.foresee(wrong, 0));
            Check.thrown(Check.ARGUMENT, house, () -> house.foresee(wrong, 3));
        }
        for (int wrong : new int[] {-1, 3, Integer.MIN_VALUE, Integer.MAX_VALUE}) {
            Check.thrown(Check.INDEX, house, () -> house.foresee(1, wrong));
        }
        for (int what = 0; what < 3; what++) {
            int asked = what;
            unchanged(house, () -> house.foresee(720, asked));
        }
    }

    private static void promise18Mean() {
        PinholeHouse house = oneRoomOnePasser();
        Check.due(0.0, house.mean());
        house.go(2);
        Check.due(1.0, house.mean());
        house.pass(30, 0, 9, 9);
        house.go(1);
        Check.due(4 / 3.0, house.mean());
        house.addRoom(31, 3, 5);
        house.seat(1, 3);
        house.go(1);
        Check.due(3.0, house.mean());
        house.setLight(0, 0, 0);
        house.go(3);
        Check.due(12 / 7.0, house.mean());
        PinholeHouse poor = new PinholeHouse();
        poor.go(720);
        Check.due(0.0, poor.mean());
    }

    private static void promise19Digest() {
        PinholeHouse house = new PinholeHouse();
        Check.due(digestOfAnswers(house, new int[12]), house.digest());
        house.setLight(0, 90, 1);
        house.setLight(11, 7, 8);
        int[] told = new int[12];
        told[0] = 901 - 500;
        told[11] = 78 - 500;
        house.addRoom(30, 3, 5);
        house.addRoom(33, 4, 6);
        house.seat(1, 2);
        house.pass(31, 0, 9, 9);
        house.pass(31, -3, 9, 8);
        Check.due(digestOfAnswers(house, told), house.digest());
        house.go(40);
        Check.due(-1, house.passer(1, 0));
        Check.due(digestOfAnswers(house, told), house.digest());
        house.go(700);
        Check.due(digestOfAnswers(house, told), house.digest());
    }

    /** Adds up what the calls tell; told holds by how much each hour's entry differs from 500. */
    private static long digestOfAnswers(PinholeHouse house, int[] told) {
        long d = 853;
        for (int what = 0; what < 9; what++) {
            d = d * 31 + house.count(what);
        }
        for (int difference : told) {
            d = d * 31 + 500 + difference;
        }
        for (int passer = 0; passer < house.count(2); passer++) {
            for (int what = 0; what < 5; what++) {
                d = d * 31 + house.passer(passer, what);
            }
        }
        for (int room = 0; room < house.count(4); room++) {
            for (int what = 0; what < 8; what++) {
                d = d * 31 + house.room(room, what);
            }
        }
        return d;
    }

    private static PinholeHouse oneRoomOnePasser() {
        PinholeHouse house = new PinholeHouse();
        house.addRoom(30, 3, 1);
        house.seat(0, 1);
        house.pass(30, 0, 9, 9);
        return house;
    }

    private static void unchanged(PinholeHouse house, Check.Call call) {
        long before = house.digest();
        call.make();
        Check.due(before, house.digest());
    }
}
