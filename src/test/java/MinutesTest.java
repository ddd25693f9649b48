/** Promise 13: minutes go by. */
public final class MinutesTest {
    public static void main(String[] args) {
        aShowOfTwoPaysTwoAndBringsOneMore();
        aShowOfThreePaysTwoAtMost();
        aShowOfOnePaysOneAndKeepsAll();
        aShowOfNoneSendsOneAway();
        passersGoBeforeRoomsPay();
        passersLeaveAtTheEnds();
        roomsHaveTheLightOfTheMinute();
        theDayEnds();
        goRefuses();
        Check.end();
    }

    private static PinholeHouse standing(int passers, int seats, int people) {
        PinholeHouse house = new PinholeHouse();
        house.addRoom(30, 3, seats);
        for (int i = 0; i < passers; i++) {
            house.pass(30, 0, 9, 9);
        }
        if (people > 0) {
            house.seat(0, people);
        }
        return house;
    }

    private static void aShowOfTwoPaysTwoAndBringsOneMore() {
        PinholeHouse house = standing(2, 3, 1);
        Check.due(2, house.go(1));
        Check.due(2, house.room(0, 5));
        Check.due(4, house.go(1));
        Check.due(3, house.room(0, 5));
        Check.due(6, house.go(1));
        Check.due(3, house.room(0, 5));
        Check.due(12, house.go(2));
        Check.due(24, house.room(0, 7));
        PinholeHouse empty = standing(2, 2, 0);
        Check.due(0, empty.go(1));
        Check.due(1, empty.room(0, 5));
        Check.due(6, empty.go(2));
        PinholeHouse seatless = standing(2, 0, 0);
        Check.due(0, seatless.go(10));
        Check.due(0, seatless.room(0, 5));
    }

    private static void aShowOfThreePaysTwoAtMost() {
        PinholeHouse house = standing(3, 5, 2);
        Check.due(3, house.room(0, 6));
        Check.due(4, house.go(1));
        Check.due(3, house.room(0, 5));
    }

    private static void aShowOfOnePaysOneAndKeepsAll() {
        PinholeHouse house = standing(1, 5, 2);
        Check.due(6, house.go(3));
        Check.due(2, house.room(0, 5));
    }

    private static void aShowOfNoneSendsOneAway() {
        PinholeHouse house = standing(0, 5, 2);
        Check.due(0, house.go(1));
        Check.due(1, house.room(0, 5));
        Check.due(0, house.go(1));
        Check.due(0, house.room(0, 5));
        Check.due(0, house.go(5));
        Check.due(0, house.room(0, 5));
        Check.due(0, house.count(7));
    }

    private static void passersGoBeforeRoomsPay() {
        PinholeHouse house = new PinholeHouse();
        house.addRoom(35, 3, 5);
        house.seat(0, 5);
        house.pass(20, 3, 9, 9);
        Check.due(0, house.room(0, 6));
        Check.due(5, house.go(1));
        Check.due(23, house.passer(0, 0));
        Check.due(1, house.room(0, 6));
        // The last step within reach is 47, come to in the ninth minute.
        Check.due(40, house.go(8));
        Check.due(47, house.passer(0, 0));
        Check.due(0, house.go(1));
        Check.due(4, house.room(0, 5));
    }

    private static void passersLeaveAtTheEnds() {
        PinholeHouse house = new PinholeHouse();
        house.pass(2, -2, 1, 1);
        house.pass(1, -2, 1, 1);
        house.pass(57, 2, 1, 1);
        house.pass(58, 2, 1, 1);
        house.pass(0, 3, 1, 1);
        house.pass(59, -3, 1, 1);
        house.pass(31, 0, 1, 1);
        house.go(1);
        long[] first = {0, -1, 59, -1, 3, 56, 31};
        for (int passer = 0; passer < first.length; passer++) {
            Check.due(first[passer], house.passer(passer, 0));
        }
        house.go(1);
        long[] second = {-1, -1, -1, -1, 6, 53, 31};
        for (int passer = 0; passer < second.length; passer++) {
            Check.due(second[passer], house.passer(passer, 0));
        }
        house.go(700);
        long[] last = {-1, -1, -1, -1, -1, -1, 31};
        for (int passer = 0; passer < last.length; passer++) {
            Check.due(last[passer], house.passer(passer, 0));
        }
    }

    private static void roomsHaveTheLightOfTheMinute() {
        PinholeHouse house = standing(1, 5, 0);
        house.setLight(0, 0, 0);
        house.go(59);
        house.seat(0, 5);
        Check.due(0, house.go(1));
        Check.due(4, house.go(1));
        house.setLight(2, 0, 0);
        Check.due(236, house.go(59));
        Check.due(0, house.go(1));
        Check.due(3, house.room(0, 5));
    }

    private static void theDayEnds() {
        PinholeHouse house = standing(1, 5, 1);
        house.pass(0, 0, 9, 9);
        Check.due(719, house.go(719));
        house.pass(10, 1, 9, 9);
        Check.due(1, house.go(720));
        Check.due(720, house.count(0));
        Check.due(11, house.passer(2, 0));
        Check.due(0, house.go(1));
        Check.due(0, house.go(720));
        Check.due(720, house.count(0));
        Check.due(11, house.passer(2, 0));
        // The night has no light, but nobody leaves for it, as nothing goes by.
        Check.due(0, house.room(0, 6));
        Check.due(1, house.room(0, 5));
        PinholeHouse whole = standing(1, 5, 1);
        Check.due(720, whole.go(720));
        Check.due(1, whole.count(8));
    }

    private static void goRefuses() {
        PinholeHouse house = standing(2, 5, 1);
        for (int wrong : new int[] {0, -1, 721, Integer.MIN_VALUE, Integer.MAX_VALUE}) {
            Check.thrown(Check.ARGUMENT, house, () -> house.go(wrong));
        }
        house.go(720);
        Check.thrown(Check.ARGUMENT, house, () -> house.go(0));
        Check.thrown(Check.ARGUMENT, house, () -> house.go(721));
    }
}
