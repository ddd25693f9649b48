/** Promises 1 to 7: a new house, and what is put into it. */
public final class StreetLightRoomsTest {
    public static void main(String[] args) {
        promise1NewHouse();
        promise2Pass();
        promise2PassRefuses();
        promise3SetLight();
        promise3SetLightRefuses();
        promise4AddRoom();
        promise4AddRoomRefuses();
        promise5Bore();
        promise6Paint();
        promise7Seat();
        promise7SeatRefuses();
        Check.end();
    }

    private static void promise1NewHouse() {
        PinholeHouse house = new PinholeHouse();
        long[] counts = {0, 50, 0, 0, 0, 0, 0, 0, 0};
        for (int what = 0; what < counts.length; what++) {
            Check.due(counts[what], house.count(what));
        }
        Check.thrown(Check.INDEX, house, () -> house.room(0, 0));
        Check.thrown(Check.INDEX, house, () -> house.passer(0, 0));
        Check.due(0.0, house.mean());
        PinholeHouse other = new PinholeHouse();
        other.addRoom(1, 1, 1);
        Check.due(0, house.count(4));
    }

    private static void promise2Pass() {
        PinholeHouse house = new PinholeHouse();
        Check.due(0, house.pass(0, -3, 1, 9));
        Check.due(1, house.pass(59, 3, 9, 1));
        Check.due(2, house.pass(7, 0, 4, 6));
        long[][] facts = {{0, -3, 1, 9, 0}, {59, 3, 9, 1, 0}, {7, 0, 4, 6, 0}};
        for (int passer = 0; passer < facts.length; passer++) {
            for (int what = 0; what < 5; what++) {
                Check.due(facts[passer][what], house.passer(passer, what));
            }
        }
        Check.due(3, house.count(2));
    }

    private static void promise2PassRefuses() {
        PinholeHouse house = new PinholeHouse();
        int[][] wrong = {
            {-1, 0, 1, 1}, {60, 0, 1, 1}, {0, -4, 1, 1}, {0, 4, 1, 1}, {0, 0, 0, 1}, {0, 0, 10, 1}, {0, 0, 1, 0},
            {0, 0, 1, 10}, {Integer.MAX_VALUE, 0, 1, 1}, {0, Integer.MIN_VALUE, 1, 1}, {0, 0, Integer.MIN_VALUE, 1},
            {0, 0, 1, Integer.MAX_VALUE}};
        for (int[] w : wrong) {
            Check.thrown(Check.ARGUMENT, house, () -> house.pass(w[0], w[1], w[2], w[3]));
        }
        for (int i = 0; i < 10; i++) {
            Check.due(i, house.pass(0, -1, 1, 1));
        }
        Check.thrown(Check.STATE, house, () -> house.pass(0, 0, 1, 1));
        for (int[] w : wrong) {
            Check.thrown(Check.ARGUMENT, house, () -> house.pass(w[0], w[1], w[2], w[3]));
        }
        house.go(1);
        Check.due(10, house.count(3));
        // Those who are gone keep their numbers, and with them their places among the 10.
        Check.thrown(Check.STATE, house, () -> house.pass(0, 0, 1, 1));
    }

    private static void promise3SetLight() {
        PinholeHouse house = new PinholeHouse();
        for (int hour = 0; hour < 12; hour++) {
            Check.due(500, house.setLight(hour, 100 - hour, hour % 10));
        }
        for (int hour = 0; hour < 12; hour++) {
            Check.due(10 * (100 - hour) + hour % 10, house.setLight(hour, 0, 9));
            Check.due(9, house.setLight(hour, 100, 0));
        }
        Check.due(1000, house.setLight(0, 33, 5));
        Check.due(16, house.count(1));
        house.setLight(1, 99, 9);
        house.setLight(11, 70, 1);
        house.go(59);
        Check.due(16, house.count(1));
        house.go(1);
        Check.due(9, house.count(1));
        house.go(659);
        Check.due(63, house.count(1));
        house.go(1);
        Check.due(0, house.count(1));
        Check.due(701, house.setLight(11, 5, 5));
        Check.due(0, house.count(1));
    }

    private static void promise3SetLightRefuses() {
        PinholeHouse house = new PinholeHouse();
        int[] hours = {-1, 12, Integer.MIN_VALUE, Integer.MAX_VALUE};
        for (int hour : hours) {
            Check.thrown(Check.INDEX, house, () -> house.setLight(hour, 0, 0));
            Check.thrown(Check.INDEX, house, () -> house.setLight(hour, -1, 10));
        }
        int[][] wrong = {{-1, 0}, {101, 0}, {0, -1}, {0, 10}, {Integer.MAX_VALUE, 0}, {0, Integer.MIN_VALUE}};
        for (int[] w : wrong) {
            Check.thrown(Check.ARGUMENT, house, () -> house.setLight(0, w[0], w[1]));
            Check.thrown(Check.ARGUMENT, house, () -> house.setLight(11, w[0], w[1]));
        }
    }

    private static void promise4AddRoom() {
        PinholeHouse house = new PinholeHouse();
        Check.due(0, house.addRoom(0, 1, 0));
        Check.due(1, house.addRoom(59, 9, 20));
        Check.due(2, house.addRoom(12, 4, 7));
        long[][] facts = {{0, 1, 3, 0, 0, 0, 0, 0}, {59, 9, 3, 0, 20, 0, 0, 0}, {12, 4, 3, 0, 7, 0, 0, 0}};
        for (int room = 0; room < facts.length; room++) {
            for (int what = 0; what < 8; what++) {
                Check.due(facts[room][what], house.room(room, what));
            }
        }
        Check.due(3, house.count(4));
    }

    private static void promise4AddRoomRefuses() {
        PinholeHouse house = new PinholeHouse();
        int[][] wrong = {
            {-1, 1, 0}, {60, 1, 0}, {0, 0, 0}, {0, 10, 0}, {0, 1, -1}, {0, 1, 21},
            {Integer.MIN_VALUE, 1, 0}, {0, Integer.MAX_VALUE, 0}, {0, 1, Integer.MIN_VALUE}};
        for (int[] w : wrong) {
            Check.thrown(Check.ARGUMENT, house, () -> house.addRoom(w[0], w[1], w[2]));
        }
        for (int i = 0; i < 8; i++) {
            Check.due(i, house.addRoom(5 * i, 1, 0));
            int step = 5 * i;
            Check.thrown(Check.STATE, house, () -> house.addRoom(0, 2, 1));
            Check.thrown(Check.STATE, house, () -> house.addRoom(step, 2, 1));
            Check.thrown(Check.ARGUMENT, house, () -> house.addRoom(step, 0, 1));
        }
        Check.thrown(Check.STATE, house, () -> house.addRoom(59, 1, 0));
        for (int[] w : wrong) {
            Check.thrown(Check.ARGUMENT, house, () -> house.addRoom(w[0], w[1], w[2]));
        }
    }

    private static void promise5Bore() {
        PinholeHouse house = twoRooms();
        Check.due(3, house.bore(1, 9));
        Check.due(9, house.bore(1, 1));
        Check.due(1, house.room(1, 2));
        Check.due(3, house.room(0, 2));
        for (int room : new int[] {-1, 2, Integer.MIN_VALUE, Integer.MAX_VALUE}) {
            Check.thrown(Check.INDEX, house, () -> house.bore(room, 1));
            Check.thrown(Check.INDEX, house, () -> house.bore(room, 0));
        }
        for (int hole : new int[] {0, 10, -1, Integer.MIN_VALUE, Integer.MAX_VALUE}) {
            Check.thrown(Check.ARGUMENT, house, () -> house.bore(1, hole));
        }
    }

    private static void promise6Paint() {
        PinholeHouse house = twoRooms();
        Check.due(0, house.paint(0, 9));
        Check.due(9, house.paint(0, 4));
        Check.due(4, house.room(0, 3));
        Check.due(0, house.room(1, 3));
        Check.due(4, house.paint(0, 0));
        for (int room : new int[] {-1, 2, Integer.MIN_VALUE, Integer.MAX_VALUE}) {
            Check.thrown(Check.INDEX, house, () -> house.paint(room, 1));
            Check.thrown(Check.INDEX, house, () -> house.paint(room, -1));
        }
        for (int paint : new int[] {-1, 10, Integer.MIN_VALUE, Integer.MAX_VALUE}) {
            Check.thrown(Check.ARGUMENT, house, () -> house.paint(1, paint));
        }
    }

    private static void promise7Seat() {
        PinholeHouse house = twoRooms();
        Check.due(1, house.seat(0, 1));
        Check.due(4, house.seat(0, 3));
        Check.due(5, house.seat(0, 1));
        Check.due(20, house.seat(1, 20));
        Check.due(5, house.room(0, 5));
        Check.due(20, house.room(1, 5));
        Check.due(25, house.count(5));
    }

    private static void promise7SeatRefuses() {
        PinholeHouse house = twoRooms();
        house.seat(0, 2);
        for (int room : new int[] {-1, 2, Integer.MIN_VALUE, Integer.MAX_VALUE}) {
            Check.thrown(Check.INDEX, house, () -> house.seat(room, 1));
            Check.thrown(Check.INDEX, house, () -> house.seat(room, 0));
        }
        for (int people : new int[] {0, 21, -1, Integer.MIN_VALUE, Integer.MAX_VALUE}) {
            Check.thrown(Check.ARGUMENT, house, () -> house.seat(0, people));
        }
        Check.thrown(Check.STATE, house, () -> house.seat(0, 4));
        Check.thrown(Check.STATE, house, () -> house.seat(0, 20));
        house.seat(0, 3);
        Check.thrown(Check.STATE, house, () -> house.seat(0, 1));
        PinholeHouse seatless = new PinholeHouse();
        seatless.addRoom(0, 1, 0);
        Check.thrown(Check.STATE, seatless, () -> seatless.seat(0, 1));
        Check.thrown(Check.ARGUMENT, seatless, () -> seatless.seat(0, 0));
    }

    private static PinholeHouse twoRooms() {
        PinholeHouse house = new PinholeHouse();
        house.addRoom(20, 3, 5);
        house.addRoom(40, 6, 20);
        return house;
    }
}
