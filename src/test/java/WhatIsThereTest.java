/** Promises 8 to 12: what is there. */
public final class WhatIsThereTest {
    public static void main(String[] args) {
        promise8Passer();
        promise8PasserRefuses();
        promise9Room();
        promise9RoomRefuses();
        promise10Wall();
        promise10WallBesideTheStreet();
        promise10WallOfAFullStreet();
        promise10WallRefuses();
        promise11Bright();
        promise11BrightRefuses();
        seenWellByBrightness();
        seenWellByBlur();
        promise12Count();
        promise12CountRefuses();
        Check.end();
    }

    private static void promise8Passer() {
        PinholeHouse house = new PinholeHouse();
        house.addRoom(20, 3, 5);
        house.addRoom(25, 3, 5);
        house.addRoom(50, 3, 5);
        house.pass(13, -2, 4, 5);
        Check.due(2, house.passer(0, 4));
        house.go(1);
        long[] facts = {11, -2, 4, 5, 1};
        for (int what = 0; what < facts.length; what++) {
            Check.due(facts[what], house.passer(0, what));
        }
        house.setLight(0, 0, 0);
        Check.due(0, house.passer(0, 4));
        house.setLight(0, 50, 0);
        house.go(5);
        Check.due(1, house.passer(0, 0));
        house.go(1);
        long[] goneFacts = {-1, -2, 4, 5, 0};
        for (int what = 0; what < goneFacts.length; what++) {
            Check.due(goneFacts[what], house.passer(0, what));
        }
    }

    private static void promise8PasserRefuses() {
        PinholeHouse house = new PinholeHouse();
        Check.thrown(Check.INDEX, house, () -> house.passer(0, 0));
        house.pass(5, 0, 1, 1);
        for (int wrong : new int[] {-1, 1, 10, Integer.MIN_VALUE, Integer.MAX_VALUE}) {
            Check.thrown(Check.INDEX, house, () -> house.passer(wrong, 0));
        }
        for (int wrong : new int[] {-1, 5, Integer.MIN_VALUE, Integer.MAX_VALUE}) {
            Check.thrown(Check.INDEX, house, () -> house.passer(0, wrong));
        }
    }

    private static void promise9Room() {
        PinholeHouse house = new PinholeHouse();
        house.addRoom(20, 3, 5);
        house.bore(0, 4);
        house.paint(0, 2);
        house.seat(0, 4);
        house.pass(20, 0, 9, 9);
        house.pass(32, 0, 9, 9);
        house.pass(33, 0, 9, 9);
        long[] before = {20, 3, 4, 2, 5, 4, 2, 0};
        for (int what = 0; what < before.length; what++) {
            Check.due(before[what], house.room(0, what));
        }
        house.go(2);
        long[] after = {20, 3, 4, 2, 5, 5, 2, 18};
        for (int what = 0; what < after.length; what++) {
            Check.due(after[what], house.room(0, what));
        }
    }

    private static void promise9RoomRefuses() {
        PinholeHouse house = new PinholeHouse();
        Check.thrown(Check.INDEX, house, () -> house.room(0, 0));
        house.addRoom(5, 1, 1);
        for (int wrong : new int[] {-1, 1, 8, Integer.MIN_VALUE, Integer.MAX_VALUE}) {
            Check.thrown(Check.INDEX, house, () -> house.room(wrong, 0));
        }
        for (int wrong : new int[] {-1, 8, Integer.MIN_VALUE, Integer.MAX_VALUE}) {
            Check.thrown(Check.INDEX, house, () -> house.room(0, wrong));
        }
    }

    private static void promise10Wall() {
        PinholeHouse house = new PinholeHouse();
        house.addRoom(20, 3, 5);
        house.pass(8, 0, 1, 1);
        house.pass(8, 0, 9, 9);
        house.pass(32, 0, 9, 9);
        house.pass(20, 3, 9, 9);
        Check.due(2, house.wall(0, 12));
        Check.due(0, house.wall(0, 11));
        Check.due(1, house.wall(0, -12));
        Check.due(1, house.wall(0, 0));
        house.setLight(0, 0, 0);
        house.go(1);
        Check.due(0, house.wall(0, 0));
        Check.due(0, house.wall(0, 3));
        Check.due(1, house.wall(0, -3));
        Check.due(2, house.wall(0, 12));
    }

    private static void promise10WallBesideTheStreet() {
        PinholeHouse house = new PinholeHouse();
        house.addRoom(0, 1, 0);
        house.addRoom(59, 9, 0);
        house.pass(0, -1, 1, 1);
        house.pass(59, 3, 1, 1);
        house.go(1);
        Check.due(2, house.count(3));
        for (int place = -4; place <= 4; place++) {
            Check.due(0, house.wall(0, place));
        }
        for (int place = -36; place <= 36; place++) {
            Check.due(0, house.wall(1, place));
        }
    }

    private static void promise10WallOfAFullStreet() {
        PinholeHouse house = new PinholeHouse();
        for (int i = 0; i < 8; i++) {
            house.addRoom(7 * i, 9, 1);
        }
        for (int i = 0; i < 10; i++) {
            house.pass(28, 0, 9, 9);
        }
        for (int room = 0; room < 8; room++) {
            Check.due(10, house.wall(room, 7 * room - 28));
            Check.due(0, house.wall(room, 7 * room - 27));
        }
        Check.due(80, house.count(6));
    }

    private static void promise10WallRefuses() {
        PinholeHouse house = new PinholeHouse();
        Check.thrown(Check.INDEX, house, () -> house.wall(0, 0));
        house.addRoom(20, 3, 5);
        Check.thrown(Check.INDEX, house, () -> house.wall(-1, 0));
        Check.thrown(Check.INDEX, house, () -> house.wall(1, 0));
        for (int wrong : new int[] {-13, 13, Integer.MIN_VALUE, Integer.MAX_VALUE}) {
            Check.thrown(Check.INDEX, house, () -> house.wall(0, wrong));
        }
    }

    private static void promise11Bright() {
        PinholeHouse house = new PinholeHouse();
        house.addRoom(20, 2, 5);
        house.pass(28, 1, 1, 1);
        house.pass(12, 0, 1, 9);
        house.pass(11, 0, 1, 9);
        Check.due(11, house.bright(0, 0));
        Check.due(101, house.bright(0, 1));
        Check.due(-1, house.bright(0, 2));
        house.paint(0, 1);
        // The first quotient is cut to 11 before the paint takes its part.
        Check.due(9, house.bright(0, 0));
        house.paint(0, 9);
        Check.due(1, house.bright(0, 0));
        house.bore(0, 9);
        Check.due(10, house.bright(0, 0));
        house.setLight(0, 100, 0);
        house.paint(0, 0);
        Check.due(202, house.bright(0, 0));
        house.setLight(0, 99, 9);
        Check.due(18, house.bright(0, 0));
        house.setLight(0, 0, 0);
        Check.due(0, house.bright(0, 0));
        house.go(1);
        Check.due(-1, house.bright(0, 0));
        house.go(720);
        Check.due(-1, house.bright(0, 0));
        Check.due(0, house.bright(0, 1));
        brightOfOneWhoIsGone();
    }

    private static void brightOfOneWhoIsGone() {
        PinholeHouse house = new PinholeHouse();
        house.addRoom(0, 9, 0);
        house.pass(0, -1, 9, 9);
        Check.due(5, house.bright(0, 0));
        house.go(1);
        Check.due(-1, house.bright(0, 0));
        Check.due(0, house.room(0, 6));
    }

    private static void promise11BrightRefuses() {
        PinholeHouse house = new PinholeHouse();
        Check.thrown(Check.INDEX, house, () -> house.bright(0, 0));
        house.addRoom(20, 3, 5);
        Check.thrown(Check.INDEX, house, () -> house.bright(0, 0));
        house.pass(20, 0, 1, 1);
        for (int wrong : new int[] {-1, 1, Integer.MIN_VALUE, Integer.MAX_VALUE}) {
            Check.thrown(Check.INDEX, house, () -> house.bright(wrong, 0));
            Check.thrown(Check.INDEX, house, () -> house.bright(0, wrong));
        }
    }

    private static void seenWellByBrightness() {
        PinholeHouse house = new PinholeHouse();
        house.addRoom(20, 3, 5);
        house.pass(20, 0, 9, 1);
        Check.due(5, house.bright(0, 0));
        Check.due(1, house.room(0, 6));
        house.setLight(0, 49, 0);
        Check.due(4, house.bright(0, 0));
        Check.due(0, house.room(0, 6));
    }

    private static void seenWellByBlur() {
        PinholeHouse house = new PinholeHouse();
        house.addRoom(20, 3, 5);
        house.pass(20, 0, 3, 9);
        house.pass(20, 0, 2, 9);
        Check.due(1, house.passer(0, 4));
        Check.due(0, house.passer(1, 4));
        house.addRoom(21, 2, 5);
        house.bore(1, 4);
        // 4 * 2 / 3 is cut to 2.
        Check.due(1, house.passer(1, 4));
        house.bore(1, 5);
        Check.due(0, house.passer(1, 4));
        Check.due(2, house.passer(0, 4));
    }

    private static void promise12Count() {
        PinholeHouse house = new PinholeHouse();
        house.addRoom(20, 3, 5);
        house.addRoom(24, 3, 6);
        house.addRoom(59, 1, 1);
        house.pass(22, 0, 9, 9);
        house.pass(30, 0, 9, 9);
        house.pass(0, -1, 9, 9);
        house.seat(0, 2);
        house.seat(1, 3);
        house.seat(2, 1);
        house.setLight(0, 77, 3);
        expectCounts(house, new long[] {0, 53, 3, 0, 3, 6, 4, 0, 0});
        house.go(1);
        expectCounts(house, new long[] {1, 53, 3, 1, 3, 7, 4, 10, 0});
        house.go(718);
        Check.due(719, house.count(0));
        Check.due(50, house.count(1));
        Check.due(0, house.count(8));
        house.go(1);
        Check.due(720, house.count(0));
        Check.due(0, house.count(1));
        Check.due(0, house.count(6));
        Check.due(1, house.count(8));
    }

    private static void promise12CountRefuses() {
        PinholeHouse house = new PinholeHouse();
        for (int wrong : new int[] {-1, 9, Integer.MIN_VALUE, Integer.MAX_VALUE}) {
            Check.thrown(Check.INDEX, house, () -> house.count(wrong));
        }
    }

    private static void expectCounts(PinholeHouse house, long[] counts) {
        for (int what = 0; what < counts.length; what++) {
            Check.due(counts[what], house.count(what));
        }
    }
}
